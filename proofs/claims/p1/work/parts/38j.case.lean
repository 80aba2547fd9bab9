section CAS
theorem dX12_add_23 : decode cX12_add 23 = .ok (.aload_n 0, 1) := by decide +kernel
theorem dX12_add_24 : decode cX12_add 24 = .ok (.getfield 69, 3) := by decide +kernel
theorem dX12_add_27 : decode cX12_add 27 = .ok (.iload_n 3, 1) := by decide +kernel
theorem dX12_add_28 : decode cX12_add 28 = .ok (.iaload, 1) := by decide +kernel
theorem dL_circle_0 : decode cL_circle 0 = .ok (.aload 5, 2) := by decide +kernel
theorem dL_circle_2 : decode cL_circle 2 = .ok (.iconst 0, 1) := by decide +kernel
theorem dL_circle_3 : decode cL_circle 3 = .ok (.aload_n 0, 1) := by decide +kernel
theorem dL_circle_4 : decode cL_circle 4 = .ok (.iload_n 1, 1) := by decide +kernel
theorem dL_circle_5 : decode cL_circle 5 = .ok (.iload_n 2, 1) := by decide +kernel
theorem dL_circle_6 : decode cL_circle 6 = .ok (.iload_n 3, 1) := by decide +kernel
theorem dL_circle_7 : decode cL_circle 7 = .ok (.iload 4, 2) := by decide +kernel
theorem dL_circle_9 : decode cL_circle 9 = .ok (.invokevirtual 117, 3) := by decide +kernel
theorem dL_circle_12 : decode cL_circle 12 = .ok (.i2l, 1) := by decide +kernel
theorem dL_circle_13 : decode cL_circle 13 = .ok (.lastore, 1) := by decide +kernel
theorem dL_circle_14 : decode cL_circle 14 = .ok (.goto 7, 3) := by decide +kernel
theorem dL_circle_17 : decode cL_circle 17 = .ok (.astore 6, 2) := by decide +kernel
theorem dL_circle_19 : decode cL_circle 19 = .ok (.iconst 1, 1) := by decide +kernel
theorem dL_circle_20 : decode cL_circle 20 = .ok (.ireturn, 1) := by decide +kernel
theorem dL_circle_21 : decode cL_circle 21 = .ok (.iconst 0, 1) := by decide +kernel
theorem dL_circle_22 : decode cL_circle 22 = .ok (.ireturn, 1) := by decide +kernel
theorem dX11_circle_0 : decode cX11_circle 0 = .ok (.iload_n 1, 1) := by decide +kernel
theorem dX11_circle_1 : decode cX11_circle 1 = .ok (.invokestatic 325, 3) := by decide +kernel
theorem dX11_circle_4 : decode cX11_circle 4 = .ok (.ifCond .ne 25, 3) := by decide +kernel
theorem dX11_circle_7 : decode cX11_circle 7 = .ok (.iload_n 2, 1) := by decide +kernel
theorem dX11_circle_8 : decode cX11_circle 8 = .ok (.invokestatic 325, 3) := by decide +kernel
theorem dX11_circle_11 : decode cX11_circle 11 = .ok (.ifCond .ne 18, 3) := by decide +kernel
theorem dX11_circle_14 : decode cX11_circle 14 = .ok (.iload_n 3, 1) := by decide +kernel
theorem dX11_circle_15 : decode cX11_circle 15 = .ok (.invokestatic 325, 3) := by decide +kernel
theorem dX11_circle_18 : decode cX11_circle 18 = .ok (.ifCond .ne 11, 3) := by decide +kernel
theorem dX11_circle_21 : decode cX11_circle 21 = .ok (.iload 4, 2) := by decide +kernel
theorem dX11_circle_23 : decode cX11_circle 23 = .ok (.invokestatic 325, 3) := by decide +kernel
theorem dX11_circle_26 : decode cX11_circle 26 = .ok (.ifCond .eq 11, 3) := by decide +kernel
theorem dX11_circle_29 : decode cX11_circle 29 = .ok (.new 137, 3) := by decide +kernel
theorem dX11_circle_32 : decode cX11_circle 32 = .ok (.dup, 1) := by decide +kernel
theorem dX11_circle_33 : decode cX11_circle 33 = .ok (.invokespecial 139, 3) := by decide +kernel
theorem dX11_circle_36 : decode cX11_circle 36 = .ok (.athrow, 1) := by decide +kernel
theorem dX11_circle_37 : decode cX11_circle 37 = .ok (.aload_n 0, 1) := by decide +kernel
theorem dX11_circle_38 : decode cX11_circle 38 = .ok (.getfield 90, 3) := by decide +kernel
theorem dX11_circle_41 : decode cX11_circle 41 = .ok (.iload_n 1, 1) := by decide +kernel
theorem dX11_circle_42 : decode cX11_circle 42 = .ok (.iload_n 2, 1) := by decide +kernel
theorem dX11_circle_43 : decode cX11_circle 43 = .ok (.iload_n 3, 1) := by decide +kernel
theorem dX11_circle_44 : decode cX11_circle 44 = .ok (.iload 4, 2) := by decide +kernel
theorem dX11_circle_46 : decode cX11_circle 46 = .ok (.invokevirtual 342, 3) := by decide +kernel
theorem dX11_circle_49 : decode cX11_circle 49 = .ok (.ireturn, 1) := by decide +kernel
theorem dX12_circle_0 : decode cX12_circle 0 = .ok (.aload_n 0, 1) := by decide +kernel
theorem dX12_circle_1 : decode cX12_circle 1 = .ok (.iconst 0, 1) := by decide +kernel
theorem dX12_circle_2 : decode cX12_circle 2 = .ok (.putfield 271, 3) := by decide +kernel
theorem dX12_circle_5 : decode cX12_circle 5 = .ok (.aload_n 0, 1) := by decide +kernel
theorem dX12_circle_6 : decode cX12_circle 6 = .ok (.iload_n 1, 1) := by decide +kernel
theorem dX12_circle_7 : decode cX12_circle 7 = .ok (.invokestatic 625, 3) := by decide +kernel
theorem dX12_circle_10 : decode cX12_circle 10 = .ok (.ifCond .eq 25, 3) := by decide +kernel
theorem dX12_circle_13 : decode cX12_circle 13 = .ok (.iload_n 2, 1) := by decide +kernel
theorem dX12_circle_14 : decode cX12_circle 14 = .ok (.invokestatic 625, 3) := by decide +kernel
theorem dX12_circle_17 : decode cX12_circle 17 = .ok (.ifCond .eq 18, 3) := by decide +kernel
theorem dX12_circle_20 : decode cX12_circle 20 = .ok (.iload_n 3, 1) := by decide +kernel
theorem dX12_circle_21 : decode cX12_circle 21 = .ok (.invokestatic 625, 3) := by decide +kernel
theorem dX12_circle_24 : decode cX12_circle 24 = .ok (.ifCond .eq 11, 3) := by decide +kernel
theorem dX12_circle_27 : decode cX12_circle 27 = .ok (.iload 4, 2) := by decide +kernel
theorem dX12_circle_29 : decode cX12_circle 29 = .ok (.invokestatic 625, 3) := by decide +kernel
theorem dX12_circle_32 : decode cX12_circle 32 = .ok (.ifCond .ne 7, 3) := by decide +kernel
theorem dX12_circle_35 : decode cX12_circle 35 = .ok (.iconst 1, 1) := by decide +kernel
theorem dX12_circle_36 : decode cX12_circle 36 = .ok (.goto 4, 3) := by decide +kernel
theorem dX12_circle_39 : decode cX12_circle 39 = .ok (.iconst 0, 1) := by decide +kernel
theorem dX12_circle_40 : decode cX12_circle 40 = .ok (.iconst 1, 1) := by decide +kernel
theorem dX12_circle_41 : decode cX12_circle 41 = .ok (.invokevirtual 277, 3) := by decide +kernel
theorem dX12_circle_44 : decode cX12_circle 44 = .ok (.ifCond .eq 5, 3) := by decide +kernel
theorem dX12_circle_47 : decode cX12_circle 47 = .ok (.iconst 0, 1) := by decide +kernel
theorem dX12_circle_48 : decode cX12_circle 48 = .ok (.ireturn, 1) := by decide +kernel
theorem dX12_circle_49 : decode cX12_circle 49 = .ok (.aload_n 0, 1) := by decide +kernel
theorem dX12_circle_50 : decode cX12_circle 50 = .ok (.iconst 0, 1) := by decide +kernel
theorem dX12_circle_51 : decode cX12_circle 51 = .ok (.iconst 1, 1) := by decide +kernel
theorem dX12_circle_52 : decode cX12_circle 52 = .ok (.iload_n 1, 1) := by decide +kernel
theorem dX12_circle_53 : decode cX12_circle 53 = .ok (.iload 4, 2) := by decide +kernel
theorem dX12_circle_55 : decode cX12_circle 55 = .ok (.invokevirtual 628, 3) := by decide +kernel
theorem dX12_circle_58 : decode cX12_circle 58 = .ok (.aload_n 0, 1) := by decide +kernel
theorem dX12_circle_59 : decode cX12_circle 59 = .ok (.iconst 1, 1) := by decide +kernel
theorem dX12_circle_60 : decode cX12_circle 60 = .ok (.iconst 0, 1) := by decide +kernel
theorem dX12_circle_61 : decode cX12_circle 61 = .ok (.iload_n 1, 1) := by decide +kernel
theorem dX12_circle_62 : decode cX12_circle 62 = .ok (.iload 4, 2) := by decide +kernel
theorem dX12_circle_64 : decode cX12_circle 64 = .ok (.invokevirtual 628, 3) := by decide +kernel
theorem dX12_circle_67 : decode cX12_circle 67 = .ok (.aload_n 0, 1) := by decide +kernel
theorem dX12_circle_68 : decode cX12_circle 68 = .ok (.iconst 3, 1) := by decide +kernel
theorem dX12_circle_69 : decode cX12_circle 69 = .ok (.iconst 1, 1) := by decide +kernel
theorem dX12_circle_70 : decode cX12_circle 70 = .ok (.iload_n 2, 1) := by decide +kernel
theorem dX12_circle_71 : decode cX12_circle 71 = .ok (.iload 4, 2) := by decide +kernel
theorem dX12_circle_73 : decode cX12_circle 73 = .ok (.invokevirtual 628, 3) := by decide +kernel
theorem dX12_circle_76 : decode cX12_circle 76 = .ok (.aload_n 0, 1) := by decide +kernel
theorem dX12_circle_77 : decode cX12_circle 77 = .ok (.iconst 4, 1) := by decide +kernel
theorem dX12_circle_78 : decode cX12_circle 78 = .ok (.iconst 0, 1) := by decide +kernel
theorem dX12_circle_79 : decode cX12_circle 79 = .ok (.iload_n 2, 1) := by decide +kernel
theorem dX12_circle_80 : decode cX12_circle 80 = .ok (.iload 4, 2) := by decide +kernel
theorem dX12_circle_82 : decode cX12_circle 82 = .ok (.invokevirtual 628, 3) := by decide +kernel
theorem dX12_circle_85 : decode cX12_circle 85 = .ok (.aload_n 0, 1) := by decide +kernel
theorem dX12_circle_86 : decode cX12_circle 86 = .ok (.bipush 6, 2) := by decide +kernel
theorem dX12_circle_88 : decode cX12_circle 88 = .ok (.iconst 1, 1) := by decide +kernel
theorem dX12_circle_89 : decode cX12_circle 89 = .ok (.iload_n 3, 1) := by decide +kernel
theorem dX12_circle_90 : decode cX12_circle 90 = .ok (.iload 4, 2) := by decide +kernel
theorem dX12_circle_92 : decode cX12_circle 92 = .ok (.invokevirtual 628, 3) := by decide +kernel
theorem dX12_circle_95 : decode cX12_circle 95 = .ok (.aload_n 0, 1) := by decide +kernel
theorem dX12_circle_96 : decode cX12_circle 96 = .ok (.bipush 7, 2) := by decide +kernel
theorem dX12_circle_98 : decode cX12_circle 98 = .ok (.iconst 0, 1) := by decide +kernel
theorem dX12_circle_99 : decode cX12_circle 99 = .ok (.iload_n 3, 1) := by decide +kernel
theorem dX12_circle_100 : decode cX12_circle 100 = .ok (.iload 4, 2) := by decide +kernel
theorem dX12_circle_102 : decode cX12_circle 102 = .ok (.invokevirtual 628, 3) := by decide +kernel
theorem dX12_circle_105 : decode cX12_circle 105 = .ok (.iconst 0, 1) := by decide +kernel
theorem dX12_circle_106 : decode cX12_circle 106 = .ok (.istore 5, 2) := by decide +kernel
theorem dX12_circle_108 : decode cX12_circle 108 = .ok (.iload 5, 2) := by decide +kernel
theorem dX12_circle_110 : decode cX12_circle 110 = .ok (.iconst 3, 1) := by decide +kernel
theorem dX12_circle_111 : decode cX12_circle 111 = .ok (.if_icmp .ge 15, 3) := by decide +kernel
theorem dX12_circle_114 : decode cX12_circle 114 = .ok (.aload_n 0, 1) := by decide +kernel
theorem dX12_circle_115 : decode cX12_circle 115 = .ok (.iload 5, 2) := by decide +kernel
theorem dX12_circle_117 : decode cX12_circle 117 = .ok (.invokevirtual 638, 3) := by decide +kernel
theorem dX12_circle_120 : decode cX12_circle 120 = .ok (.iinc 5 1, 3) := by decide +kernel
theorem dX12_circle_123 : decode cX12_circle 123 = .ok (.goto (-15), 3) := by decide +kernel
theorem dX12_circle_126 : decode cX12_circle 126 = .ok (.aload_n 0, 1) := by decide +kernel
theorem dX12_circle_127 : decode cX12_circle 127 = .ok (.invokevirtual 641, 3) := by decide +kernel
theorem dX12_circle_130 : decode cX12_circle 130 = .ok (.ireturn, 1) := by decide +kernel
theorem dX7_circleSign_0 : decode cX7_circleSign 0 = .ok (.aload_n 0, 1) := by decide +kernel
theorem dX7_circleSign_1 : decode cX7_circleSign 1 = .ok (.iconst 2, 1) := by decide +kernel
theorem dX7_circleSign_2 : decode cX7_circleSign 2 = .ok (.aload_n 0, 1) := by decide +kernel
theorem dX7_circleSign_3 : decode cX7_circleSign 3 = .ok (.getfield 9, 3) := by decide +kernel
theorem dX7_circleSign_6 : decode cX7_circleSign 6 = .ok (.iload_n 1, 1) := by decide +kernel
theorem dX7_circleSign_7 : decode cX7_circleSign 7 = .ok (.laload, 1) := by decide +kernel
theorem dX7_circleSign_8 : decode cX7_circleSign 8 = .ok (.aload_n 0, 1) := by decide +kernel
theorem dX7_circleSign_9 : decode cX7_circleSign 9 = .ok (.getfield 9, 3) := by decide +kernel
theorem dX7_circleSign_12 : decode cX7_circleSign 12 = .ok (.iload 4, 2) := by decide +kernel
theorem dX7_circleSign_14 : decode cX7_circleSign 14 = .ok (.laload, 1) := by decide +kernel
theorem dX7_circleSign_15 : decode cX7_circleSign 15 = .ok (.invokevirtual 30, 3) := by decide +kernel
theorem dX7_circleSign_18 : decode cX7_circleSign 18 = .ok (.aload_n 0, 1) := by decide +kernel
theorem dX7_circleSign_19 : decode cX7_circleSign 19 = .ok (.iconst 3, 1) := by decide +kernel
theorem dX7_circleSign_20 : decode cX7_circleSign 20 = .ok (.aload_n 0, 1) := by decide +kernel
theorem dX7_circleSign_21 : decode cX7_circleSign 21 = .ok (.getfield 15, 3) := by decide +kernel
theorem dX7_circleSign_24 : decode cX7_circleSign 24 = .ok (.iload_n 1, 1) := by decide +kernel
theorem dX7_circleSign_25 : decode cX7_circleSign 25 = .ok (.laload, 1) := by decide +kernel
theorem dX7_circleSign_26 : decode cX7_circleSign 26 = .ok (.aload_n 0, 1) := by decide +kernel
theorem dX7_circleSign_27 : decode cX7_circleSign 27 = .ok (.getfield 15, 3) := by decide +kernel
theorem dX7_circleSign_30 : decode cX7_circleSign 30 = .ok (.iload 4, 2) := by decide +kernel
theorem dX7_circleSign_32 : decode cX7_circleSign 32 = .ok (.laload, 1) := by decide +kernel
theorem dX7_circleSign_33 : decode cX7_circleSign 33 = .ok (.invokevirtual 30, 3) := by decide +kernel
theorem dX7_circleSign_36 : decode cX7_circleSign 36 = .ok (.aload_n 0, 1) := by decide +kernel
theorem dX7_circleSign_37 : decode cX7_circleSign 37 = .ok (.iconst 4, 1) := by decide +kernel
theorem dX7_circleSign_38 : decode cX7_circleSign 38 = .ok (.aload_n 0, 1) := by decide +kernel
theorem dX7_circleSign_39 : decode cX7_circleSign 39 = .ok (.getfield 9, 3) := by decide +kernel
theorem dX7_circleSign_42 : decode cX7_circleSign 42 = .ok (.iload_n 2, 1) := by decide +kernel
theorem dX7_circleSign_43 : decode cX7_circleSign 43 = .ok (.laload, 1) := by decide +kernel
theorem dX7_circleSign_44 : decode cX7_circleSign 44 = .ok (.aload_n 0, 1) := by decide +kernel
theorem dX7_circleSign_45 : decode cX7_circleSign 45 = .ok (.getfield 9, 3) := by decide +kernel
theorem dX7_circleSign_48 : decode cX7_circleSign 48 = .ok (.iload 4, 2) := by decide +kernel
theorem dX7_circleSign_50 : decode cX7_circleSign 50 = .ok (.laload, 1) := by decide +kernel
theorem dX7_circleSign_51 : decode cX7_circleSign 51 = .ok (.invokevirtual 30, 3) := by decide +kernel
theorem dX7_circleSign_54 : decode cX7_circleSign 54 = .ok (.aload_n 0, 1) := by decide +kernel
theorem dX7_circleSign_55 : decode cX7_circleSign 55 = .ok (.iconst 5, 1) := by decide +kernel
theorem dX7_circleSign_56 : decode cX7_circleSign 56 = .ok (.aload_n 0, 1) := by decide +kernel
theorem dX7_circleSign_57 : decode cX7_circleSign 57 = .ok (.getfield 15, 3) := by decide +kernel
theorem dX7_circleSign_60 : decode cX7_circleSign 60 = .ok (.iload_n 2, 1) := by decide +kernel
theorem dX7_circleSign_61 : decode cX7_circleSign 61 = .ok (.laload, 1) := by decide +kernel
theorem dX7_circleSign_62 : decode cX7_circleSign 62 = .ok (.aload_n 0, 1) := by decide +kernel
theorem dX7_circleSign_63 : decode cX7_circleSign 63 = .ok (.getfield 15, 3) := by decide +kernel
theorem dX7_circleSign_66 : decode cX7_circleSign 66 = .ok (.iload 4, 2) := by decide +kernel
theorem dX7_circleSign_68 : decode cX7_circleSign 68 = .ok (.laload, 1) := by decide +kernel
theorem dX7_circleSign_69 : decode cX7_circleSign 69 = .ok (.invokevirtual 30, 3) := by decide +kernel
theorem dX7_circleSign_72 : decode cX7_circleSign 72 = .ok (.aload_n 0, 1) := by decide +kernel
theorem dX7_circleSign_73 : decode cX7_circleSign 73 = .ok (.bipush 6, 2) := by decide +kernel
theorem dX7_circleSign_75 : decode cX7_circleSign 75 = .ok (.aload_n 0, 1) := by decide +kernel
theorem dX7_circleSign_76 : decode cX7_circleSign 76 = .ok (.getfield 9, 3) := by decide +kernel
theorem dX7_circleSign_79 : decode cX7_circleSign 79 = .ok (.iload_n 3, 1) := by decide +kernel
theorem dX7_circleSign_80 : decode cX7_circleSign 80 = .ok (.laload, 1) := by decide +kernel
theorem dX7_circleSign_81 : decode cX7_circleSign 81 = .ok (.aload_n 0, 1) := by decide +kernel
theorem dX7_circleSign_82 : decode cX7_circleSign 82 = .ok (.getfield 9, 3) := by decide +kernel
theorem dX7_circleSign_85 : decode cX7_circleSign 85 = .ok (.iload 4, 2) := by decide +kernel
theorem dX7_circleSign_87 : decode cX7_circleSign 87 = .ok (.laload, 1) := by decide +kernel
theorem dX7_circleSign_88 : decode cX7_circleSign 88 = .ok (.invokevirtual 30, 3) := by decide +kernel
theorem dX7_circleSign_91 : decode cX7_circleSign 91 = .ok (.aload_n 0, 1) := by decide +kernel
theorem dX7_circleSign_92 : decode cX7_circleSign 92 = .ok (.bipush 7, 2) := by decide +kernel
theorem dX7_circleSign_94 : decode cX7_circleSign 94 = .ok (.aload_n 0, 1) := by decide +kernel
theorem dX7_circleSign_95 : decode cX7_circleSign 95 = .ok (.getfield 15, 3) := by decide +kernel
theorem dX7_circleSign_98 : decode cX7_circleSign 98 = .ok (.iload_n 3, 1) := by decide +kernel
theorem dX7_circleSign_99 : decode cX7_circleSign 99 = .ok (.laload, 1) := by decide +kernel
theorem dX7_circleSign_100 : decode cX7_circleSign 100 = .ok (.aload_n 0, 1) := by decide +kernel
theorem dX7_circleSign_101 : decode cX7_circleSign 101 = .ok (.getfield 15, 3) := by decide +kernel
theorem dX7_circleSign_104 : decode cX7_circleSign 104 = .ok (.iload 4, 2) := by decide +kernel
theorem dX7_circleSign_106 : decode cX7_circleSign 106 = .ok (.laload, 1) := by decide +kernel
theorem dX7_circleSign_107 : decode cX7_circleSign 107 = .ok (.invokevirtual 30, 3) := by decide +kernel
theorem dX7_circleSign_110 : decode cX7_circleSign 110 = .ok (.aload_n 0, 1) := by decide +kernel
theorem dX7_circleSign_111 : decode cX7_circleSign 111 = .ok (.bipush 8, 2) := by decide +kernel
theorem dX7_circleSign_113 : decode cX7_circleSign 113 = .ok (.iconst 2, 1) := by decide +kernel
theorem dX7_circleSign_114 : decode cX7_circleSign 114 = .ok (.iconst 4, 1) := by decide +kernel
theorem dX7_circleSign_115 : decode cX7_circleSign 115 = .ok (.bipush 6, 2) := by decide +kernel
theorem dX7_circleSign_117 : decode cX7_circleSign 117 = .ok (.invokevirtual 42, 3) := by decide +kernel
theorem dX7_circleSign_120 : decode cX7_circleSign 120 = .ok (.aload_n 0, 1) := by decide +kernel
theorem dX7_circleSign_121 : decode cX7_circleSign 121 = .ok (.bipush 9, 2) := by decide +kernel
theorem dX7_circleSign_123 : decode cX7_circleSign 123 = .ok (.iconst 4, 1) := by decide +kernel
theorem dX7_circleSign_124 : decode cX7_circleSign 124 = .ok (.bipush 6, 2) := by decide +kernel
theorem dX7_circleSign_126 : decode cX7_circleSign 126 = .ok (.iconst 2, 1) := by decide +kernel
theorem dX7_circleSign_127 : decode cX7_circleSign 127 = .ok (.invokevirtual 42, 3) := by decide +kernel
theorem dX7_circleSign_130 : decode cX7_circleSign 130 = .ok (.aload_n 0, 1) := by decide +kernel
theorem dX7_circleSign_131 : decode cX7_circleSign 131 = .ok (.bipush 10, 2) := by decide +kernel
theorem dX7_circleSign_133 : decode cX7_circleSign 133 = .ok (.bipush 6, 2) := by decide +kernel
theorem dX7_circleSign_135 : decode cX7_circleSign 135 = .ok (.iconst 2, 1) := by decide +kernel
theorem dX7_circleSign_136 : decode cX7_circleSign 136 = .ok (.iconst 4, 1) := by decide +kernel
theorem dX7_circleSign_137 : decode cX7_circleSign 137 = .ok (.invokevirtual 42, 3) := by decide +kernel
theorem dX7_circleSign_140 : decode cX7_circleSign 140 = .ok (.aload_n 0, 1) := by decide +kernel
theorem dX7_circleSign_141 : decode cX7_circleSign 141 = .ok (.bipush 11, 2) := by decide +kernel
theorem dX7_circleSign_143 : decode cX7_circleSign 143 = .ok (.bipush 8, 2) := by decide +kernel
theorem dX7_circleSign_145 : decode cX7_circleSign 145 = .ok (.bipush 9, 2) := by decide +kernel
theorem dX7_circleSign_147 : decode cX7_circleSign 147 = .ok (.iconst 1, 1) := by decide +kernel
theorem dX7_circleSign_148 : decode cX7_circleSign 148 = .ok (.invokevirtual 38, 3) := by decide +kernel
theorem dX7_circleSign_151 : decode cX7_circleSign 151 = .ok (.aload_n 0, 1) := by decide +kernel
theorem dX7_circleSign_152 : decode cX7_circleSign 152 = .ok (.bipush 12, 2) := by decide +kernel
theorem dX7_circleSign_154 : decode cX7_circleSign 154 = .ok (.bipush 11, 2) := by decide +kernel
theorem dX7_circleSign_156 : decode cX7_circleSign 156 = .ok (.bipush 10, 2) := by decide +kernel
theorem dX7_circleSign_158 : decode cX7_circleSign 158 = .ok (.iconst 1, 1) := by decide +kernel
theorem dX7_circleSign_159 : decode cX7_circleSign 159 = .ok (.invokevirtual 38, 3) := by decide +kernel
theorem dX7_circleSign_162 : decode cX7_circleSign 162 = .ok (.aload_n 0, 1) := by decide +kernel
theorem dX7_circleSign_163 : decode cX7_circleSign 163 = .ok (.getfield 27, 3) := by decide +kernel
theorem dX7_circleSign_166 : decode cX7_circleSign 166 = .ok (.bipush 12, 2) := by decide +kernel
theorem dX7_circleSign_168 : decode cX7_circleSign 168 = .ok (.iaload, 1) := by decide +kernel
theorem dX7_circleSign_169 : decode cX7_circleSign 169 = .ok (.ireturn, 1) := by decide +kernel
theorem dX7_putTerm_0 : decode cX7_putTerm 0 = .ok (.aload_n 0, 1) := by decide +kernel
theorem dX7_putTerm_1 : decode cX7_putTerm 1 = .ok (.bipush 13, 2) := by decide +kernel
theorem dX7_putTerm_3 : decode cX7_putTerm 3 = .ok (.iload_n 2, 1) := by decide +kernel
theorem dX7_putTerm_4 : decode cX7_putTerm 4 = .ok (.iload_n 2, 1) := by decide +kernel
theorem dX7_putTerm_5 : decode cX7_putTerm 5 = .ok (.invokevirtual 34, 3) := by decide +kernel
theorem dX7_putTerm_8 : decode cX7_putTerm 8 = .ok (.aload_n 0, 1) := by decide +kernel
theorem dX7_putTerm_9 : decode cX7_putTerm 9 = .ok (.bipush 14, 2) := by decide +kernel
theorem dX7_putTerm_11 : decode cX7_putTerm 11 = .ok (.iload_n 2, 1) := by decide +kernel
theorem dX7_putTerm_12 : decode cX7_putTerm 12 = .ok (.iconst 1, 1) := by decide +kernel
theorem dX7_putTerm_13 : decode cX7_putTerm 13 = .ok (.iadd, 1) := by decide +kernel
theorem dX7_putTerm_14 : decode cX7_putTerm 14 = .ok (.iload_n 2, 1) := by decide +kernel
theorem dX7_putTerm_15 : decode cX7_putTerm 15 = .ok (.iconst 1, 1) := by decide +kernel
theorem dX7_putTerm_16 : decode cX7_putTerm 16 = .ok (.iadd, 1) := by decide +kernel
theorem dX7_putTerm_17 : decode cX7_putTerm 17 = .ok (.invokevirtual 34, 3) := by decide +kernel
theorem dX7_putTerm_20 : decode cX7_putTerm 20 = .ok (.aload_n 0, 1) := by decide +kernel
theorem dX7_putTerm_21 : decode cX7_putTerm 21 = .ok (.bipush 15, 2) := by decide +kernel
theorem dX7_putTerm_23 : decode cX7_putTerm 23 = .ok (.bipush 13, 2) := by decide +kernel
theorem dX7_putTerm_25 : decode cX7_putTerm 25 = .ok (.bipush 14, 2) := by decide +kernel
theorem dX7_putTerm_27 : decode cX7_putTerm 27 = .ok (.iconst 1, 1) := by decide +kernel
theorem dX7_putTerm_28 : decode cX7_putTerm 28 = .ok (.invokevirtual 38, 3) := by decide +kernel
theorem dX7_putTerm_31 : decode cX7_putTerm 31 = .ok (.aload_n 0, 1) := by decide +kernel
theorem dX7_putTerm_32 : decode cX7_putTerm 32 = .ok (.bipush 13, 2) := by decide +kernel
theorem dX7_putTerm_34 : decode cX7_putTerm 34 = .ok (.iload_n 3, 1) := by decide +kernel
theorem dX7_putTerm_35 : decode cX7_putTerm 35 = .ok (.iload 4, 2) := by decide +kernel
theorem dX7_putTerm_37 : decode cX7_putTerm 37 = .ok (.iconst 1, 1) := by decide +kernel
theorem dX7_putTerm_38 : decode cX7_putTerm 38 = .ok (.iadd, 1) := by decide +kernel
theorem dX7_putTerm_39 : decode cX7_putTerm 39 = .ok (.invokevirtual 34, 3) := by decide +kernel
theorem dX7_putTerm_42 : decode cX7_putTerm 42 = .ok (.aload_n 0, 1) := by decide +kernel
theorem dX7_putTerm_43 : decode cX7_putTerm 43 = .ok (.bipush 14, 2) := by decide +kernel
theorem dX7_putTerm_45 : decode cX7_putTerm 45 = .ok (.iload_n 3, 1) := by decide +kernel
theorem dX7_putTerm_46 : decode cX7_putTerm 46 = .ok (.iconst 1, 1) := by decide +kernel
theorem dX7_putTerm_47 : decode cX7_putTerm 47 = .ok (.iadd, 1) := by decide +kernel
theorem dX7_putTerm_48 : decode cX7_putTerm 48 = .ok (.iload 4, 2) := by decide +kernel
theorem dX7_putTerm_50 : decode cX7_putTerm 50 = .ok (.invokevirtual 34, 3) := by decide +kernel
theorem dX7_putTerm_53 : decode cX7_putTerm 53 = .ok (.aload_n 0, 1) := by decide +kernel
theorem dX7_putTerm_54 : decode cX7_putTerm 54 = .ok (.iconst 0, 1) := by decide +kernel
theorem dX7_putTerm_55 : decode cX7_putTerm 55 = .ok (.bipush 13, 2) := by decide +kernel
theorem dX7_putTerm_57 : decode cX7_putTerm 57 = .ok (.bipush 14, 2) := by decide +kernel
theorem dX7_putTerm_59 : decode cX7_putTerm 59 = .ok (.iconst (-1), 1) := by decide +kernel
theorem dX7_putTerm_60 : decode cX7_putTerm 60 = .ok (.invokevirtual 38, 3) := by decide +kernel
theorem dX7_putTerm_63 : decode cX7_putTerm 63 = .ok (.aload_n 0, 1) := by decide +kernel
theorem dX7_putTerm_64 : decode cX7_putTerm 64 = .ok (.iload_n 1, 1) := by decide +kernel
theorem dX7_putTerm_65 : decode cX7_putTerm 65 = .ok (.bipush 15, 2) := by decide +kernel
theorem dX7_putTerm_67 : decode cX7_putTerm 67 = .ok (.iconst 0, 1) := by decide +kernel
theorem dX7_putTerm_68 : decode cX7_putTerm 68 = .ok (.invokevirtual 34, 3) := by decide +kernel
theorem dX7_putTerm_71 : decode cX7_putTerm 71 = .ok (.return_, 1) := by decide +kernel
theorem dX12_squares_0 : decode cX12_squares 0 = .ok (.aload_n 0, 1) := by decide +kernel
theorem dX12_squares_1 : decode cX12_squares 1 = .ok (.bipush 9, 2) := by decide +kernel
theorem dX12_squares_3 : decode cX12_squares 3 = .ok (.iconst 3, 1) := by decide +kernel
theorem dX12_squares_4 : decode cX12_squares 4 = .ok (.iload_n 1, 1) := by decide +kernel
theorem dX12_squares_5 : decode cX12_squares 5 = .ok (.imul, 1) := by decide +kernel
theorem dX12_squares_6 : decode cX12_squares 6 = .ok (.iconst 3, 1) := by decide +kernel
theorem dX12_squares_7 : decode cX12_squares 7 = .ok (.iload_n 1, 1) := by decide +kernel
theorem dX12_squares_8 : decode cX12_squares 8 = .ok (.imul, 1) := by decide +kernel
theorem dX12_squares_9 : decode cX12_squares 9 = .ok (.invokevirtual 632, 3) := by decide +kernel
theorem dX12_squares_12 : decode cX12_squares 12 = .ok (.aload_n 0, 1) := by decide +kernel
theorem dX12_squares_13 : decode cX12_squares 13 = .ok (.bipush 10, 2) := by decide +kernel
theorem dX12_squares_15 : decode cX12_squares 15 = .ok (.iconst 3, 1) := by decide +kernel
theorem dX12_squares_16 : decode cX12_squares 16 = .ok (.iload_n 1, 1) := by decide +kernel
theorem dX12_squares_17 : decode cX12_squares 17 = .ok (.imul, 1) := by decide +kernel
theorem dX12_squares_18 : decode cX12_squares 18 = .ok (.iconst 1, 1) := by decide +kernel
theorem dX12_squares_19 : decode cX12_squares 19 = .ok (.iadd, 1) := by decide +kernel
theorem dX12_squares_20 : decode cX12_squares 20 = .ok (.iconst 3, 1) := by decide +kernel
theorem dX12_squares_21 : decode cX12_squares 21 = .ok (.iload_n 1, 1) := by decide +kernel
theorem dX12_squares_22 : decode cX12_squares 22 = .ok (.imul, 1) := by decide +kernel
theorem dX12_squares_23 : decode cX12_squares 23 = .ok (.iconst 1, 1) := by decide +kernel
theorem dX12_squares_24 : decode cX12_squares 24 = .ok (.iadd, 1) := by decide +kernel
theorem dX12_squares_25 : decode cX12_squares 25 = .ok (.invokevirtual 632, 3) := by decide +kernel
theorem dX12_squares_28 : decode cX12_squares 28 = .ok (.aload_n 0, 1) := by decide +kernel
theorem dX12_squares_29 : decode cX12_squares 29 = .ok (.iconst 3, 1) := by decide +kernel
theorem dX12_squares_30 : decode cX12_squares 30 = .ok (.iload_n 1, 1) := by decide +kernel
theorem dX12_squares_31 : decode cX12_squares 31 = .ok (.imul, 1) := by decide +kernel
theorem dX12_squares_32 : decode cX12_squares 32 = .ok (.iconst 2, 1) := by decide +kernel
theorem dX12_squares_33 : decode cX12_squares 33 = .ok (.iadd, 1) := by decide +kernel
theorem dX12_squares_34 : decode cX12_squares 34 = .ok (.bipush 9, 2) := by decide +kernel
theorem dX12_squares_36 : decode cX12_squares 36 = .ok (.bipush 10, 2) := by decide +kernel
theorem dX12_squares_38 : decode cX12_squares 38 = .ok (.iconst 0, 1) := by decide +kernel
theorem dX12_squares_39 : decode cX12_squares 39 = .ok (.invokevirtual 621, 3) := by decide +kernel
theorem dX12_squares_42 : decode cX12_squares 42 = .ok (.return_, 1) := by decide +kernel
theorem dX12_determinant_0 : decode cX12_determinant 0 = .ok (.aload_n 0, 1) := by decide +kernel
theorem dX12_determinant_1 : decode cX12_determinant 1 = .ok (.bipush 15, 2) := by decide +kernel
theorem dX12_determinant_3 : decode cX12_determinant 3 = .ok (.lconst 0, 1) := by decide +kernel
theorem dX12_determinant_4 : decode cX12_determinant 4 = .ok (.invokevirtual 635, 3) := by decide +kernel
theorem dX12_determinant_7 : decode cX12_determinant 7 = .ok (.iconst 0, 1) := by decide +kernel
theorem dX12_determinant_8 : decode cX12_determinant 8 = .ok (.istore_n 1, 1) := by decide +kernel
theorem dX12_determinant_9 : decode cX12_determinant 9 = .ok (.iload_n 1, 1) := by decide +kernel
theorem dX12_determinant_10 : decode cX12_determinant 10 = .ok (.iconst 3, 1) := by decide +kernel
theorem dX12_determinant_11 : decode cX12_determinant 11 = .ok (.if_icmp .ge 82, 3) := by decide +kernel
theorem dX12_determinant_14 : decode cX12_determinant 14 = .ok (.iconst 3, 1) := by decide +kernel
theorem dX12_determinant_15 : decode cX12_determinant 15 = .ok (.iload_n 1, 1) := by decide +kernel
theorem dX12_determinant_16 : decode cX12_determinant 16 = .ok (.iconst 1, 1) := by decide +kernel
theorem dX12_determinant_17 : decode cX12_determinant 17 = .ok (.iadd, 1) := by decide +kernel
theorem dX12_determinant_18 : decode cX12_determinant 18 = .ok (.iconst 3, 1) := by decide +kernel
theorem dX12_determinant_19 : decode cX12_determinant 19 = .ok (.irem, 1) := by decide +kernel
theorem dX12_determinant_20 : decode cX12_determinant 20 = .ok (.imul, 1) := by decide +kernel
theorem dX12_determinant_21 : decode cX12_determinant 21 = .ok (.istore_n 2, 1) := by decide +kernel
theorem dX12_determinant_22 : decode cX12_determinant 22 = .ok (.iconst 3, 1) := by decide +kernel
theorem dX12_determinant_23 : decode cX12_determinant 23 = .ok (.iload_n 1, 1) := by decide +kernel
theorem dX12_determinant_24 : decode cX12_determinant 24 = .ok (.iconst 2, 1) := by decide +kernel
theorem dX12_determinant_25 : decode cX12_determinant 25 = .ok (.iadd, 1) := by decide +kernel
theorem dX12_determinant_26 : decode cX12_determinant 26 = .ok (.iconst 3, 1) := by decide +kernel
theorem dX12_determinant_27 : decode cX12_determinant 27 = .ok (.irem, 1) := by decide +kernel
theorem dX12_determinant_28 : decode cX12_determinant 28 = .ok (.imul, 1) := by decide +kernel
theorem dX12_determinant_29 : decode cX12_determinant 29 = .ok (.istore_n 3, 1) := by decide +kernel
theorem dX12_determinant_30 : decode cX12_determinant 30 = .ok (.aload_n 0, 1) := by decide +kernel
theorem dX12_determinant_31 : decode cX12_determinant 31 = .ok (.bipush 9, 2) := by decide +kernel
theorem dX12_determinant_33 : decode cX12_determinant 33 = .ok (.iload_n 2, 1) := by decide +kernel
theorem dX12_determinant_34 : decode cX12_determinant 34 = .ok (.iconst 1, 1) := by decide +kernel
theorem dX12_determinant_35 : decode cX12_determinant 35 = .ok (.iadd, 1) := by decide +kernel
theorem dX12_determinant_36 : decode cX12_determinant 36 = .ok (.iload_n 3, 1) := by decide +kernel
theorem dX12_determinant_37 : decode cX12_determinant 37 = .ok (.iconst 2, 1) := by decide +kernel
theorem dX12_determinant_38 : decode cX12_determinant 38 = .ok (.iadd, 1) := by decide +kernel
theorem dX12_determinant_39 : decode cX12_determinant 39 = .ok (.invokevirtual 632, 3) := by decide +kernel
theorem dX12_determinant_42 : decode cX12_determinant 42 = .ok (.aload_n 0, 1) := by decide +kernel
theorem dX12_determinant_43 : decode cX12_determinant 43 = .ok (.bipush 10, 2) := by decide +kernel
theorem dX12_determinant_45 : decode cX12_determinant 45 = .ok (.iload_n 2, 1) := by decide +kernel
theorem dX12_determinant_46 : decode cX12_determinant 46 = .ok (.iconst 2, 1) := by decide +kernel
theorem dX12_determinant_47 : decode cX12_determinant 47 = .ok (.iadd, 1) := by decide +kernel
theorem dX12_determinant_48 : decode cX12_determinant 48 = .ok (.iload_n 3, 1) := by decide +kernel
theorem dX12_determinant_49 : decode cX12_determinant 49 = .ok (.iconst 1, 1) := by decide +kernel
theorem dX12_determinant_50 : decode cX12_determinant 50 = .ok (.iadd, 1) := by decide +kernel
theorem dX12_determinant_51 : decode cX12_determinant 51 = .ok (.invokevirtual 632, 3) := by decide +kernel
theorem dX12_determinant_54 : decode cX12_determinant 54 = .ok (.aload_n 0, 1) := by decide +kernel
theorem dX12_determinant_55 : decode cX12_determinant 55 = .ok (.bipush 11, 2) := by decide +kernel
theorem dX12_determinant_57 : decode cX12_determinant 57 = .ok (.bipush 9, 2) := by decide +kernel
theorem dX12_determinant_59 : decode cX12_determinant 59 = .ok (.bipush 10, 2) := by decide +kernel
theorem dX12_determinant_61 : decode cX12_determinant 61 = .ok (.iconst 1, 1) := by decide +kernel
theorem dX12_determinant_62 : decode cX12_determinant 62 = .ok (.invokevirtual 621, 3) := by decide +kernel
theorem dX12_determinant_65 : decode cX12_determinant 65 = .ok (.aload_n 0, 1) := by decide +kernel
theorem dX12_determinant_66 : decode cX12_determinant 66 = .ok (.bipush 12, 2) := by decide +kernel
theorem dX12_determinant_68 : decode cX12_determinant 68 = .ok (.iconst 3, 1) := by decide +kernel
theorem dX12_determinant_69 : decode cX12_determinant 69 = .ok (.iload_n 1, 1) := by decide +kernel
theorem dX12_determinant_70 : decode cX12_determinant 70 = .ok (.imul, 1) := by decide +kernel
theorem dX12_determinant_71 : decode cX12_determinant 71 = .ok (.bipush 11, 2) := by decide +kernel
theorem dX12_determinant_73 : decode cX12_determinant 73 = .ok (.invokevirtual 632, 3) := by decide +kernel
theorem dX12_determinant_76 : decode cX12_determinant 76 = .ok (.aload_n 0, 1) := by decide +kernel
theorem dX12_determinant_77 : decode cX12_determinant 77 = .ok (.bipush 15, 2) := by decide +kernel
theorem dX12_determinant_79 : decode cX12_determinant 79 = .ok (.bipush 15, 2) := by decide +kernel
theorem dX12_determinant_81 : decode cX12_determinant 81 = .ok (.bipush 12, 2) := by decide +kernel
theorem dX12_determinant_83 : decode cX12_determinant 83 = .ok (.iconst 0, 1) := by decide +kernel
theorem dX12_determinant_84 : decode cX12_determinant 84 = .ok (.invokevirtual 621, 3) := by decide +kernel
theorem dX12_determinant_87 : decode cX12_determinant 87 = .ok (.iinc 1 1, 3) := by decide +kernel
theorem dX12_determinant_90 : decode cX12_determinant 90 = .ok (.goto (-81), 3) := by decide +kernel
theorem dX12_determinant_93 : decode cX12_determinant 93 = .ok (.aload_n 0, 1) := by decide +kernel
theorem dX12_determinant_94 : decode cX12_determinant 94 = .ok (.getfield 69, 3) := by decide +kernel
theorem dX12_determinant_97 : decode cX12_determinant 97 = .ok (.bipush 15, 2) := by decide +kernel
theorem dX12_determinant_99 : decode cX12_determinant 99 = .ok (.iaload, 1) := by decide +kernel
theorem dX12_determinant_100 : decode cX12_determinant 100 = .ok (.ireturn, 1) := by decide +kernel
theorem dX12_set_0 : decode cX12_set 0 = .ok (.lload_n 2, 1) := by decide +kernel
theorem dX12_set_1 : decode cX12_set 1 = .ok (.lconst 0, 1) := by decide +kernel
theorem dX12_set_2 : decode cX12_set 2 = .ok (.lcmp, 1) := by decide +kernel
theorem dX12_set_3 : decode cX12_set 3 = .ok (.ifCond .ge 8, 3) := by decide +kernel
theorem dX12_set_11 : decode cX12_set 11 = .ok (.lload_n 2, 1) := by decide +kernel
theorem dX12_set_12 : decode cX12_set 12 = .ok (.lstore 4, 2) := by decide +kernel
theorem dX12_set_14 : decode cX12_set 14 = .ok (.aload_n 0, 1) := by decide +kernel
theorem dX12_set_15 : decode cX12_set 15 = .ok (.getfield 63, 3) := by decide +kernel
theorem dX12_set_18 : decode cX12_set 18 = .ok (.sipush 300, 3) := by decide +kernel
theorem dX12_set_21 : decode cX12_set 21 = .ok (.iload_n 1, 1) := by decide +kernel
theorem dX12_set_22 : decode cX12_set 22 = .ok (.imul, 1) := by decide +kernel
theorem dX12_set_23 : decode cX12_set 23 = .ok (.lload 4, 2) := by decide +kernel
theorem dX12_set_25 : decode cX12_set 25 = .ok (.ldc2_w 598, 3) := by decide +kernel
theorem dX12_set_28 : decode cX12_set 28 = .ok (.land, 1) := by decide +kernel
theorem dX12_set_29 : decode cX12_set 29 = .ok (.lastore, 1) := by decide +kernel
theorem dX12_set_30 : decode cX12_set 30 = .ok (.aload_n 0, 1) := by decide +kernel
theorem dX12_set_31 : decode cX12_set 31 = .ok (.getfield 63, 3) := by decide +kernel
theorem dX12_set_34 : decode cX12_set 34 = .ok (.sipush 300, 3) := by decide +kernel
theorem dX12_set_37 : decode cX12_set 37 = .ok (.iload_n 1, 1) := by decide +kernel
theorem dX12_set_38 : decode cX12_set 38 = .ok (.imul, 1) := by decide +kernel
theorem dX12_set_39 : decode cX12_set 39 = .ok (.iconst 1, 1) := by decide +kernel
theorem dX12_set_40 : decode cX12_set 40 = .ok (.iadd, 1) := by decide +kernel
theorem dX12_set_41 : decode cX12_set 41 = .ok (.lload 4, 2) := by decide +kernel
theorem dX12_set_43 : decode cX12_set 43 = .ok (.bipush 32, 2) := by decide +kernel
theorem dX12_set_45 : decode cX12_set 45 = .ok (.lushr, 1) := by decide +kernel
theorem dX12_set_46 : decode cX12_set 46 = .ok (.lastore, 1) := by decide +kernel
theorem dX12_set_47 : decode cX12_set 47 = .ok (.aload_n 0, 1) := by decide +kernel
theorem dX12_set_48 : decode cX12_set 48 = .ok (.getfield 66, 3) := by decide +kernel
theorem dX12_set_51 : decode cX12_set 51 = .ok (.iload_n 1, 1) := by decide +kernel
theorem dX12_set_52 : decode cX12_set 52 = .ok (.iconst 2, 1) := by decide +kernel
theorem dX12_set_53 : decode cX12_set 53 = .ok (.iastore, 1) := by decide +kernel
theorem dX12_set_54 : decode cX12_set 54 = .ok (.aload_n 0, 1) := by decide +kernel
theorem dX12_set_55 : decode cX12_set 55 = .ok (.getfield 69, 3) := by decide +kernel
theorem dX12_set_58 : decode cX12_set 58 = .ok (.iload_n 1, 1) := by decide +kernel
theorem dX12_set_59 : decode cX12_set 59 = .ok (.lload_n 2, 1) := by decide +kernel
theorem dX12_set_60 : decode cX12_set 60 = .ok (.lconst 0, 1) := by decide +kernel
theorem dX12_set_61 : decode cX12_set 61 = .ok (.lcmp, 1) := by decide +kernel
theorem dX12_set_62 : decode cX12_set 62 = .ok (.ifCond .ge 7, 3) := by decide +kernel
theorem dX12_set_69 : decode cX12_set 69 = .ok (.iconst 1, 1) := by decide +kernel
theorem dX12_set_70 : decode cX12_set 70 = .ok (.iastore, 1) := by decide +kernel
theorem dX12_set_71 : decode cX12_set 71 = .ok (.aload_n 0, 1) := by decide +kernel
theorem dX12_set_72 : decode cX12_set 72 = .ok (.iload_n 1, 1) := by decide +kernel
theorem dX12_set_73 : decode cX12_set 73 = .ok (.invokevirtual 600, 3) := by decide +kernel
theorem dX12_set_76 : decode cX12_set 76 = .ok (.return_, 1) := by decide +kernel
theorem dL_law_2357 : decode cL_law 2357 = .ok (.aload_n 1, 1) := by decide +kernel
theorem dL_law_2358 : decode cL_law 2358 = .ok (.aload_n 0, 1) := by decide +kernel
theorem dL_law_2359 : decode cL_law 2359 = .ok (.iload 4, 2) := by decide +kernel
theorem dL_law_2361 : decode cL_law 2361 = .ok (.iconst 1, 1) := by decide +kernel
theorem dL_law_2362 : decode cL_law 2362 = .ok (.iadd, 1) := by decide +kernel
theorem dL_law_2363 : decode cL_law 2363 = .ok (.iaload, 1) := by decide +kernel
theorem dL_law_2364 : decode cL_law 2364 = .ok (.aload_n 0, 1) := by decide +kernel
theorem dL_law_2365 : decode cL_law 2365 = .ok (.iload 4, 2) := by decide +kernel
theorem dL_law_2367 : decode cL_law 2367 = .ok (.iconst 2, 1) := by decide +kernel
theorem dL_law_2368 : decode cL_law 2368 = .ok (.iadd, 1) := by decide +kernel
theorem dL_law_2369 : decode cL_law 2369 = .ok (.iaload, 1) := by decide +kernel
theorem dL_law_2370 : decode cL_law 2370 = .ok (.aload_n 0, 1) := by decide +kernel
theorem dL_law_2371 : decode cL_law 2371 = .ok (.iload 4, 2) := by decide +kernel
theorem dL_law_2373 : decode cL_law 2373 = .ok (.iconst 3, 1) := by decide +kernel
theorem dL_law_2374 : decode cL_law 2374 = .ok (.iadd, 1) := by decide +kernel
theorem dL_law_2375 : decode cL_law 2375 = .ok (.iaload, 1) := by decide +kernel
theorem dL_law_2376 : decode cL_law 2376 = .ok (.aload_n 0, 1) := by decide +kernel
theorem dL_law_2377 : decode cL_law 2377 = .ok (.iload 4, 2) := by decide +kernel
theorem dL_law_2379 : decode cL_law 2379 = .ok (.iconst 4, 1) := by decide +kernel
theorem dL_law_2380 : decode cL_law 2380 = .ok (.iadd, 1) := by decide +kernel
theorem dL_law_2381 : decode cL_law 2381 = .ok (.iaload, 1) := by decide +kernel
theorem dL_law_2382 : decode cL_law 2382 = .ok (.aload_n 3, 1) := by decide +kernel
theorem dL_law_2383 : decode cL_law 2383 = .ok (.invokestatic 238, 3) := by decide +kernel
theorem dL_law_2386 : decode cL_law 2386 = .ok (.istore 5, 2) := by decide +kernel
theorem dL_law_2388 : decode cL_law 2388 = .ok (.aload_n 2, 1) := by decide +kernel
theorem dL_law_2389 : decode cL_law 2389 = .ok (.aload_n 0, 1) := by decide +kernel
theorem dL_law_2390 : decode cL_law 2390 = .ok (.iload 4, 2) := by decide +kernel
theorem dL_law_2392 : decode cL_law 2392 = .ok (.iconst 1, 1) := by decide +kernel
theorem dL_law_2393 : decode cL_law 2393 = .ok (.iadd, 1) := by decide +kernel
theorem dL_law_2394 : decode cL_law 2394 = .ok (.iaload, 1) := by decide +kernel
theorem dL_law_2395 : decode cL_law 2395 = .ok (.aload_n 0, 1) := by decide +kernel
theorem dL_law_2396 : decode cL_law 2396 = .ok (.iload 4, 2) := by decide +kernel
theorem dL_law_2398 : decode cL_law 2398 = .ok (.iconst 2, 1) := by decide +kernel
theorem dL_law_2399 : decode cL_law 2399 = .ok (.iadd, 1) := by decide +kernel
theorem dL_law_2400 : decode cL_law 2400 = .ok (.iaload, 1) := by decide +kernel
theorem dL_law_2401 : decode cL_law 2401 = .ok (.aload_n 0, 1) := by decide +kernel
theorem dL_law_2402 : decode cL_law 2402 = .ok (.iload 4, 2) := by decide +kernel
theorem dL_law_2404 : decode cL_law 2404 = .ok (.iconst 3, 1) := by decide +kernel
theorem dL_law_2405 : decode cL_law 2405 = .ok (.iadd, 1) := by decide +kernel
theorem dL_law_2406 : decode cL_law 2406 = .ok (.iaload, 1) := by decide +kernel
theorem dL_law_2407 : decode cL_law 2407 = .ok (.aload_n 0, 1) := by decide +kernel
theorem dL_law_2408 : decode cL_law 2408 = .ok (.iload 4, 2) := by decide +kernel
theorem dL_law_2410 : decode cL_law 2410 = .ok (.iconst 4, 1) := by decide +kernel
theorem dL_law_2411 : decode cL_law 2411 = .ok (.iadd, 1) := by decide +kernel
theorem dL_law_2412 : decode cL_law 2412 = .ok (.iaload, 1) := by decide +kernel
theorem dL_law_2413 : decode cL_law 2413 = .ok (.invokevirtual 240, 3) := by decide +kernel
theorem dL_law_2416 : decode cL_law 2416 = .ok (.istore 6, 2) := by decide +kernel
theorem dL_law_2418 : decode cL_law 2418 = .ok (.aload_n 2, 1) := by decide +kernel
theorem dL_law_2419 : decode cL_law 2419 = .ok (.invokevirtual 136, 3) := by decide +kernel
theorem dL_law_2422 : decode cL_law 2422 = .ok (.iload 5, 2) := by decide +kernel
theorem dL_law_2424 : decode cL_law 2424 = .ok (.if_icmp .eq 5, 3) := by decide +kernel
theorem dL_law_2429 : decode cL_law 2429 = .ok (.iload 5, 2) := by decide +kernel
theorem dL_law_2431 : decode cL_law 2431 = .ok (.ifCond .ne 15, 3) := by decide +kernel
theorem dL_law_2434 : decode cL_law 2434 = .ok (.aload_n 3, 1) := by decide +kernel
theorem dL_law_2435 : decode cL_law 2435 = .ok (.iconst 0, 1) := by decide +kernel
theorem dL_law_2436 : decode cL_law 2436 = .ok (.laload, 1) := by decide +kernel
theorem dL_law_2437 : decode cL_law 2437 = .ok (.iload 6, 2) := by decide +kernel
theorem dL_law_2439 : decode cL_law 2439 = .ok (.i2l, 1) := by decide +kernel
theorem dL_law_2440 : decode cL_law 2440 = .ok (.lcmp, 1) := by decide +kernel
theorem dL_law_2441 : decode cL_law 2441 = .ok (.ifCond .eq 5, 3) := by decide +kernel
theorem dL_law_2446 : decode cL_law 2446 = .ok (.goto 3, 3) := by decide +kernel
abbrev M_L_circle : MRec := (yL_circle, cL_circle, 7, (some Jvm.ClassFile.FieldType.int), [((0 : Nat), (14 : Nat), (17 : Nat), (24 : Nat))])
theorem m_L_circle : en_M M_L_circle 6 := ⟨t_2366, t_0, ⟨by decide +kernel, by decide +kernel⟩, by decide +kernel, by decide +kernel, by decide +kernel⟩
abbrev M_X11_circle : MRec := (yX11_circle, cX11_circle, 5, (some Jvm.ClassFile.FieldType.int), [])
theorem m_X11_circle : en_M M_X11_circle 4 := ⟨t_2370, t_1, ⟨by decide +kernel, by decide +kernel⟩, by decide +kernel, by decide +kernel, by decide +kernel⟩
abbrev M_X12_circle : MRec := (yX12_circle, cX12_circle, 6, (some Jvm.ClassFile.FieldType.int), [])
theorem m_X12_circle : en_M M_X12_circle 4 := ⟨t_3201, t_14, ⟨by decide +kernel, by decide +kernel⟩, by decide +kernel, by decide +kernel, by decide +kernel⟩
abbrev M_X7_circleSign : MRec := (yX7_circleSign, cX7_circleSign, 5, (some Jvm.ClassFile.FieldType.int), [])
theorem m_X7_circleSign : en_M M_X7_circleSign 4 := ⟨t_2374, t_13, ⟨by decide +kernel, by decide +kernel⟩, by decide +kernel, by decide +kernel, by decide +kernel⟩
abbrev M_X7_putTerm : MRec := (yX7_putTerm, cX7_putTerm, 5, none, [])
theorem m_X7_putTerm : en_M M_X7_putTerm 4 := ⟨t_2378, t_13, ⟨by decide +kernel, by decide +kernel⟩, by decide +kernel, by decide +kernel, by decide +kernel⟩
abbrev M_X12_squares : MRec := (yX12_squares, cX12_squares, 2, none, [])
theorem m_X12_squares : en_M M_X12_squares 1 := ⟨t_3205, t_14, ⟨by decide +kernel, by decide +kernel⟩, by decide +kernel, by decide +kernel, by decide +kernel⟩
abbrev M_X12_determinant : MRec := (yX12_determinant, cX12_determinant, 4, (some Jvm.ClassFile.FieldType.int), [])
theorem m_X12_determinant : en_M M_X12_determinant 0 := ⟨t_3209, t_14, ⟨by decide +kernel, by decide +kernel⟩, by decide +kernel, by decide +kernel, by decide +kernel⟩
abbrev M_X12_set : MRec := (yX12_set, cX12_set, 6, none, [])
theorem m_X12_set : en_M M_X12_set 2 := ⟨t_3213, t_14, ⟨by decide +kernel, by decide +kernel⟩, by decide +kernel, by decide +kernel, by decide +kernel⟩
set_option maxRecDepth 10000 in
theorem q8220 {l : Launch} {E : EE} (hl : l.stackTraces = false) {h : HP} {a0 : Int32} {a1 : Int32} {a2 : Int32} {a3 : Int32} (c0 : a0.toInt < 0) : en_C l E M_X11_circle 6 1 6 [.ref 32, .int a0, .int a1, .int a2, .int a3] h (pT "java/lang/IndexOutOfBoundsException" [] h (fun _ => True)) := by
  refine en_mk m_X11_circle rfl hl (Nat.le_of_ble_eq_true rfl) ?_
  refine x_iload_n (M := M_X11_circle) dX11_circle_0 rfl ?_
  refine x_callSR (M := M_X11_circle) (M' := M_X11_isNoSignPoint) rfl rfl dX11_circle_1 m_X11_isNoSignPoint t_2309 t_2310 (q4252 hl c0) rfl rfl (Nat.le_of_ble_eq_true rfl) (Nat.le_of_ble_eq_true rfl) (Nat.le_of_ble_eq_true rfl) (Nat.le_of_ble_eq_true rfl) ?_
  refine x_if_ne (M := M_X11_circle) (tgt := 29) dX11_circle_4 (by decide) (fun _ => ?_) (fun q => absurd q (by decide +kernel))
  exact x_throw (M := M_X11_circle) (names := en_nm) rfl dX11_circle_29 dX11_circle_32 dX11_circle_33 dX11_circle_36 (by decide +kernel) en_nm_ok (Or.inl t_748) (Or.inl t_22) (at_X11_IndexOutOfBoundsException_139) (Nat.le_of_ble_eq_true rfl) (Nat.le_of_ble_eq_true rfl) (Nat.le_of_ble_eq_true rfl) (Nat.le_of_ble_eq_true rfl) (fun n9 => ⟨rfl, (fr_tr (fr_app (List.replicate n9 none)) (fun _ h => nomatch h) fr_rf), trivial⟩)
set_option maxRecDepth 10000 in
theorem q8225 {l : Launch} {E : EE} (hl : l.stackTraces = false) {h : HP} {a0 : Int32} {a1 : Int32} {a2 : Int32} {a3 : Int32} (c0 : a0.toInt < 0) (o8221 : ob h 32 = some (.inr (14, [.ref 33, .ref 162, .ref 166, .int (0 : Int32), .int (0 : Int32), .int (0 : Int32), .ref 167, .ref 170, .ref 173, .ref 177, .ref 193, .ref 208, .ref 222, .ref 238, .ref 252, .ref 274, .ref 275, .ref 276, .int (0 : Int32)]))) : en_C l E M_L_circle 7 1 6 [.ref 32, .int a0, .int a1, .int a2, .int a3, .ref 359] h (pF (some (.int (Int32.ofInt 1))) [] h (fun _ => True)) := by
  refine en_mkW m_L_circle rfl hl (Nat.le_of_ble_eq_true rfl) ?_
  refine x_aload (M := M_L_circle) dL_circle_0 rfl ?_
  refine x_iconst (M := M_L_circle) dL_circle_2 ?_
  refine x_aload_n (M := M_L_circle) dL_circle_3 rfl ?_
  refine x_iload_n (M := M_L_circle) dL_circle_4 rfl ?_
  refine x_iload_n (M := M_L_circle) dL_circle_5 rfl ?_
  refine x_iload_n (M := M_L_circle) dL_circle_6 rfl ?_
  refine x_iload (M := M_L_circle) dL_circle_7 rfl ?_
  refine y_callVHX (M := M_L_circle) (M' := M_X11_circle) (i9 := 6) (nx := 19) rfl dL_circle_9 m_X11_circle t_2367 t_2368 t_2369 o8221 rfl (q8220 hl c0) rfl rfl (Nat.le_of_ble_eq_true rfl) (Nat.le_of_ble_eq_true rfl) (Nat.le_of_ble_eq_true rfl) (Nat.le_of_ble_eq_true rfl) (en_hdm (k0 := 6) [] [] rfl (fun _ h => nomatch h) (by decide +kernel) (by decide) t_739 n_750 dL_circle_17) (by decide) rfl (fun h8222 f8223 w8224 => ?_)
  refine x_iconst (M := M_L_circle) dL_circle_19 ?_
  exact x_iret (M := M_L_circle) dL_circle_20 rfl ⟨rfl, (fr_tr f8223 (fun _ h => nomatch h) fr_rf), trivial⟩ (Nat.le_of_ble_eq_true rfl) (Nat.le_of_ble_eq_true rfl)
set_option maxRecDepth 10000 in
theorem q8238 {l : Launch} {E : EE} (hl : l.stackTraces = false) {h : HP} {a0 : Int32} {a1 : Int32} {a2 : Int32} {a3 : Int32} {dg : Int32} (c0 : a0.toInt < 0) (o8230 : ob h 277 = some (.inr (15, (RB dg)))) : en_C l E M_X12_circle 1 0 0 [.ref 277, .int a0, .int a1, .int a2, .int a3] h (pF (some (.int (Int32.ofInt 0))) [277] h (fun h' => ob h' 277 = some (.inr (15, ((RB dg).set 0 (.int (Int32.ofInt 1))))) ∧ True)) := by
  refine en_mk m_X12_circle rfl hl (Nat.le_of_ble_eq_true rfl) ?_
  refine x_aload_n (M := M_X12_circle) dX12_circle_0 rfl ?_
  refine x_iconst (M := M_X12_circle) dX12_circle_1 ?_
  refine y_put (M := M_X12_circle) (ci := 15) (C := RX12) (T := TX12) (N := 135) (ty := tyX12) cl15 dX12_circle_2 o8230 0 (by decide) t_2391 (Or.inl rfl) (Nat.le_of_ble_eq_true rfl) rfl (fun h8231 w8232 f8233 => ?_)
  refine x_aload_n (M := M_X12_circle) dX12_circle_5 rfl ?_
  refine x_iload_n (M := M_X12_circle) dX12_circle_6 rfl ?_
  refine x_callSR (M := M_X12_circle) (M' := M_X12_isPoint) rfl rfl dX12_circle_7 m_X12_isPoint t_3154 t_3155 (q4276 hl c0) rfl rfl (Nat.le_of_ble_eq_true rfl) (Nat.le_of_ble_eq_true rfl) (Nat.le_of_ble_eq_true rfl) (Nat.le_of_ble_eq_true rfl) ?_
  refine x_if_eq (M := M_X12_circle) (tgt := 35) dX12_circle_10 (by decide) (fun _ => ?_) (fun q => absurd q (by decide +kernel))
  refine x_iconst (M := M_X12_circle) dX12_circle_35 ?_
  refine x_goto (M := M_X12_circle) (tgt := 40) dX12_circle_36 (by decide) ?_
  refine x_iconst (M := M_X12_circle) dX12_circle_40 ?_
  refine y_callVR (M := M_X12_circle) (M' := M_X12_fails) rfl rfl dX12_circle_41 m_X12_fails t_2805 t_2807 s_157 (q22 hl w8232) rfl rfl w8232 rfl (Nat.le_of_ble_eq_true rfl) (Nat.le_of_ble_eq_true rfl) (Nat.le_of_ble_eq_true rfl) (Nat.le_of_ble_eq_true rfl) (fun h8234 f8235 w8236 => ?_)
  obtain ⟨o8237, -⟩ := w8236
  refine x_if_eq (M := M_X12_circle) (tgt := 49) dX12_circle_44 (by decide) (fun q => absurd q (by decide +kernel)) (fun _ => ?_)
  refine x_iconst (M := M_X12_circle) dX12_circle_47 ?_
  exact x_iret (M := M_X12_circle) dX12_circle_48 rfl ⟨rfl, (fr_tr f8235 (by decide) (fr_tr f8233 (by decide) fr_rf)), ⟨o8237, trivial⟩⟩ (Nat.le_of_ble_eq_true rfl) (Nat.le_of_ble_eq_true rfl)
set_option maxRecDepth 10000 in
theorem lc31_0 {l : Launch} {E : EE} (hl : l.stackTraces = false) (nm : String) {xs : Nat → Int32} (hx : E.2.2.2.2 0 = some (7, xs)) {h : HP} {a0 : Int32} {a1 : Int32} {a2 : Int32} {a3 : Int32} {dg : Int32} (e2 : xs 2 = a0) (e3 : xs 3 = a1) (e4 : xs 4 = a2) (e5 : xs 5 = a3) (c0 : a0.toInt < 0) (o8226 : ob h 32 = some (.inr (14, [.ref 33, .ref 162, .ref 166, .int (0 : Int32), .int (0 : Int32), .int (0 : Int32), .ref 167, .ref 170, .ref 173, .ref 177, .ref 193, .ref 208, .ref 222, .ref 238, .ref 252, .ref 274, .ref 275, .ref 276, .int (0 : Int32)]))) (o8239 : ob h 277 = some (.inr (15, (RB dg)))) : XX l E (M_law nm) 1312 342628 8074320 (fun o _ => o = .inl (some (.int 1))) 2357 [some (.ref 0), some (.ref 32), some (.ref 277), some (.ref 359), some (.int (Int32.ofInt 1)), none, none, none] [] h 328 2463747 := by
  refine x_aload_n (M := (M_law nm)) dL_law_2357 rfl ?_
  refine x_aload_n (M := (M_law nm)) dL_law_2358 rfl ?_
  refine x_iload (M := (M_law nm)) dL_law_2359 rfl ?_
  refine x_iconst (M := (M_law nm)) dL_law_2361 ?_
  refine x_iadd (M := (M_law nm)) dL_law_2362 ?_
  refine x_sald (M := (M_law nm)) dL_law_2363 (by decide) hx (vp_inD (by decide +kernel)) ?_
  refine x_top (M := (M_law nm)) (y := a0) ((congrArg xs (by decide +kernel : ((Int32.ofInt 1) + (Int32.ofInt 1)).toNatClampNeg = 2)).trans e2) ?_
  refine x_aload_n (M := (M_law nm)) dL_law_2364 rfl ?_
  refine x_iload (M := (M_law nm)) dL_law_2365 rfl ?_
  refine x_iconst (M := (M_law nm)) dL_law_2367 ?_
  refine x_iadd (M := (M_law nm)) dL_law_2368 ?_
  refine x_sald (M := (M_law nm)) dL_law_2369 (by decide) hx (vp_inD (by decide +kernel)) ?_
  refine x_top (M := (M_law nm)) (y := a1) ((congrArg xs (by decide +kernel : ((Int32.ofInt 1) + (Int32.ofInt 2)).toNatClampNeg = 3)).trans e3) ?_
  refine x_aload_n (M := (M_law nm)) dL_law_2370 rfl ?_
  refine x_iload (M := (M_law nm)) dL_law_2371 rfl ?_
  refine x_iconst (M := (M_law nm)) dL_law_2373 ?_
  refine x_iadd (M := (M_law nm)) dL_law_2374 ?_
  refine x_sald (M := (M_law nm)) dL_law_2375 (by decide) hx (vp_inD (by decide +kernel)) ?_
  refine x_top (M := (M_law nm)) (y := a2) ((congrArg xs (by decide +kernel : ((Int32.ofInt 1) + (Int32.ofInt 3)).toNatClampNeg = 4)).trans e4) ?_
  refine x_aload_n (M := (M_law nm)) dL_law_2376 rfl ?_
  refine x_iload (M := (M_law nm)) dL_law_2377 rfl ?_
  refine x_iconst (M := (M_law nm)) dL_law_2379 ?_
  refine x_iadd (M := (M_law nm)) dL_law_2380 ?_
  refine x_sald (M := (M_law nm)) dL_law_2381 (by decide) hx (vp_inD (by decide +kernel)) ?_
  refine x_top (M := (M_law nm)) (y := a3) ((congrArg xs (by decide +kernel : ((Int32.ofInt 1) + (Int32.ofInt 4)).toNatClampNeg = 5)).trans e5) ?_
  refine x_aload_n (M := (M_law nm)) dL_law_2382 rfl ?_
  refine y_callSW (M := (M_law nm)) (M' := M_L_circle) rfl rfl dL_law_2383 m_L_circle t_2364 t_2365 (q8225 hl c0 o8226) rfl rfl (Nat.le_of_ble_eq_true rfl) (Nat.le_of_ble_eq_true rfl) (Nat.le_of_ble_eq_true rfl) (Nat.le_of_ble_eq_true rfl) (fun h8227 f8228 w8229 => ?_)
  refine x_istore (M := (M_law nm)) dL_law_2386 (Nat.le_of_ble_eq_true rfl) rfl ?_
  refine x_aload_n (M := (M_law nm)) dL_law_2388 rfl ?_
  refine x_aload_n (M := (M_law nm)) dL_law_2389 rfl ?_
  refine x_iload (M := (M_law nm)) dL_law_2390 rfl ?_
  refine x_iconst (M := (M_law nm)) dL_law_2392 ?_
  refine x_iadd (M := (M_law nm)) dL_law_2393 ?_
  refine x_sald (M := (M_law nm)) dL_law_2394 (by decide) hx (vp_inD (by decide +kernel)) ?_
  refine x_top (M := (M_law nm)) (y := a0) ((congrArg xs (by decide +kernel : ((Int32.ofInt 1) + (Int32.ofInt 1)).toNatClampNeg = 2)).trans e2) ?_
  refine x_aload_n (M := (M_law nm)) dL_law_2395 rfl ?_
  refine x_iload (M := (M_law nm)) dL_law_2396 rfl ?_
  refine x_iconst (M := (M_law nm)) dL_law_2398 ?_
  refine x_iadd (M := (M_law nm)) dL_law_2399 ?_
  refine x_sald (M := (M_law nm)) dL_law_2400 (by decide) hx (vp_inD (by decide +kernel)) ?_
  refine x_top (M := (M_law nm)) (y := a1) ((congrArg xs (by decide +kernel : ((Int32.ofInt 1) + (Int32.ofInt 2)).toNatClampNeg = 3)).trans e3) ?_
  refine x_aload_n (M := (M_law nm)) dL_law_2401 rfl ?_
  refine x_iload (M := (M_law nm)) dL_law_2402 rfl ?_
  refine x_iconst (M := (M_law nm)) dL_law_2404 ?_
  refine x_iadd (M := (M_law nm)) dL_law_2405 ?_
  refine x_sald (M := (M_law nm)) dL_law_2406 (by decide) hx (vp_inD (by decide +kernel)) ?_
  refine x_top (M := (M_law nm)) (y := a2) ((congrArg xs (by decide +kernel : ((Int32.ofInt 1) + (Int32.ofInt 3)).toNatClampNeg = 4)).trans e4) ?_
  refine x_aload_n (M := (M_law nm)) dL_law_2407 rfl ?_
  refine x_iload (M := (M_law nm)) dL_law_2408 rfl ?_
  refine x_iconst (M := (M_law nm)) dL_law_2410 ?_
  refine x_iadd (M := (M_law nm)) dL_law_2411 ?_
  refine x_sald (M := (M_law nm)) dL_law_2412 (by decide) hx (vp_inD (by decide +kernel)) ?_
  refine x_top (M := (M_law nm)) (y := a3) ((congrArg xs (by decide +kernel : ((Int32.ofInt 1) + (Int32.ofInt 4)).toNatClampNeg = 5)).trans e5) ?_
  have o8240 := (f8228 277 _ (by decide) o8239)
  refine y_callVR (M := (M_law nm)) (M' := M_X12_circle) rfl rfl dL_law_2413 m_X12_circle t_3198 t_3199 t_3200 (q8238 hl c0 o8240) rfl rfl o8240 rfl (Nat.le_of_ble_eq_true rfl) (Nat.le_of_ble_eq_true rfl) (Nat.le_of_ble_eq_true rfl) (Nat.le_of_ble_eq_true rfl) (fun h8241 f8242 w8243 => ?_)
  obtain ⟨o8244, -⟩ := w8243
  refine x_istore (M := (M_law nm)) dL_law_2416 (Nat.le_of_ble_eq_true rfl) rfl ?_
  refine x_aload_n (M := (M_law nm)) dL_law_2418 rfl ?_
  refine x_callVR (M := (M_law nm)) (M' := M_X12_thrown) rfl rfl dL_law_2419 m_X12_thrown t_2797 t_2798 t_2799 (q35 hl o8244) rfl rfl o8244 rfl (Nat.le_of_ble_eq_true rfl) (Nat.le_of_ble_eq_true rfl) (Nat.le_of_ble_eq_true rfl) (Nat.le_of_ble_eq_true rfl) ?_
  refine x_iload (M := (M_law nm)) dL_law_2422 rfl ?_
  refine x_icmp_eq (M := (M_law nm)) (tgt := 2429) dL_law_2424 (by decide) (fun _ => ?_) (fun q => absurd q (by decide +kernel))
  refine x_iload (M := (M_law nm)) dL_law_2429 rfl ?_
  refine x_if_ne (M := (M_law nm)) (tgt := 2446) dL_law_2431 (by decide) (fun _ => ?_) (fun q => absurd q (by decide +kernel))
  refine x_goto (M := (M_law nm)) (tgt := 2449) dL_law_2446 (by decide) ?_
  refine x_iinc (M := (M_law nm)) dL_law_2449 rfl (Nat.le_of_ble_eq_true rfl) rfl ?_
  refine x_lvs (M := (M_law nm)) (lv' := [some (.ref 0), some (.ref 32), some (.ref 277), some (.ref 359), some (.int (Int32.ofInt 7)), some (.int (Int32.ofInt 1)), some (.int (Int32.ofInt 0)), none]) (by rw [(by decide +kernel : (Int32.ofInt 1) + Int32.ofInt 6 = (Int32.ofInt 7))] <;> rfl) ?_
  refine x_goto (M := (M_law nm)) (tgt := 33) dL_law_2452 (by decide) ?_
  refine x_iload (M := (M_law nm)) dL_law_33 rfl ?_
  refine x_aload_n (M := (M_law nm)) dL_law_35 rfl ?_
  refine x_slen (M := (M_law nm)) dL_law_36 (by decide) hx ?_
  refine x_bipush (M := (M_law nm)) dL_law_37 ?_
  refine x_isub (M := (M_law nm)) dL_law_39 ?_
  refine x_icmp_gt (M := (M_law nm)) (tgt := 2455) dL_law_40 (by decide) (fun _ => ?_) (fun q => absurd q (by decide +kernel))
  refine x_iconst (M := (M_law nm)) dL_law_2455 ?_
  exact x_zret (M := (M_law nm)) dL_law_2456 rfl (by decide) rfl (Nat.le_of_ble_eq_true rfl) (Nat.le_of_ble_eq_true rfl)
set_option maxRecDepth 10000 in
theorem q8246 {l : Launch} {E : EE} (hl : l.stackTraces = false) {h : HP} {a0 : Int32} {a1 : Int32} {a2 : Int32} {a3 : Int32} (c0 : ¬ (a0.toInt < 0)) (c1 : a0.toInt < 32) (c2 : a1.toInt < 0) : en_C l E M_X11_circle 6 1 6 [.ref 32, .int a0, .int a1, .int a2, .int a3] h (pT "java/lang/IndexOutOfBoundsException" [] h (fun _ => True)) := by
  refine en_mk m_X11_circle rfl hl (Nat.le_of_ble_eq_true rfl) ?_
  refine x_iload_n (M := M_X11_circle) dX11_circle_0 rfl ?_
  refine x_callSR (M := M_X11_circle) (M' := M_X11_isNoSignPoint) rfl rfl dX11_circle_1 m_X11_isNoSignPoint t_2309 t_2310 (q4334 hl c0 c1) rfl rfl (Nat.le_of_ble_eq_true rfl) (Nat.le_of_ble_eq_true rfl) (Nat.le_of_ble_eq_true rfl) (Nat.le_of_ble_eq_true rfl) ?_
  refine x_if_ne (M := M_X11_circle) (tgt := 29) dX11_circle_4 (by decide) (fun q => absurd q (by decide +kernel)) (fun _ => ?_)
  refine x_iload_n (M := M_X11_circle) dX11_circle_7 rfl ?_
  refine x_callSR (M := M_X11_circle) (M' := M_X11_isNoSignPoint) rfl rfl dX11_circle_8 m_X11_isNoSignPoint t_2309 t_2310 (q6529 hl c2) rfl rfl (Nat.le_of_ble_eq_true rfl) (Nat.le_of_ble_eq_true rfl) (Nat.le_of_ble_eq_true rfl) (Nat.le_of_ble_eq_true rfl) ?_
  refine x_if_ne (M := M_X11_circle) (tgt := 29) dX11_circle_11 (by decide) (fun _ => ?_) (fun q => absurd q (by decide +kernel))
  exact x_throw (M := M_X11_circle) (names := en_nm) rfl dX11_circle_29 dX11_circle_32 dX11_circle_33 dX11_circle_36 (by decide +kernel) en_nm_ok (Or.inl t_748) (Or.inl t_22) (at_X11_IndexOutOfBoundsException_139) (Nat.le_of_ble_eq_true rfl) (Nat.le_of_ble_eq_true rfl) (Nat.le_of_ble_eq_true rfl) (Nat.le_of_ble_eq_true rfl) (fun n9 => ⟨rfl, (fr_tr (fr_app (List.replicate n9 none)) (fun _ h => nomatch h) fr_rf), trivial⟩)
set_option maxRecDepth 10000 in
theorem q8251 {l : Launch} {E : EE} (hl : l.stackTraces = false) {h : HP} {a0 : Int32} {a1 : Int32} {a2 : Int32} {a3 : Int32} (c0 : ¬ (a0.toInt < 0)) (c1 : a0.toInt < 32) (c2 : a1.toInt < 0) (o8247 : ob h 32 = some (.inr (14, [.ref 33, .ref 162, .ref 166, .int (0 : Int32), .int (0 : Int32), .int (0 : Int32), .ref 167, .ref 170, .ref 173, .ref 177, .ref 193, .ref 208, .ref 222, .ref 238, .ref 252, .ref 274, .ref 275, .ref 276, .int (0 : Int32)]))) : en_C l E M_L_circle 7 1 6 [.ref 32, .int a0, .int a1, .int a2, .int a3, .ref 359] h (pF (some (.int (Int32.ofInt 1))) [] h (fun _ => True)) := by
  refine en_mkW m_L_circle rfl hl (Nat.le_of_ble_eq_true rfl) ?_
  refine x_aload (M := M_L_circle) dL_circle_0 rfl ?_
  refine x_iconst (M := M_L_circle) dL_circle_2 ?_
  refine x_aload_n (M := M_L_circle) dL_circle_3 rfl ?_
  refine x_iload_n (M := M_L_circle) dL_circle_4 rfl ?_
  refine x_iload_n (M := M_L_circle) dL_circle_5 rfl ?_
  refine x_iload_n (M := M_L_circle) dL_circle_6 rfl ?_
  refine x_iload (M := M_L_circle) dL_circle_7 rfl ?_
  refine y_callVHX (M := M_L_circle) (M' := M_X11_circle) (i9 := 6) (nx := 19) rfl dL_circle_9 m_X11_circle t_2367 t_2368 t_2369 o8247 rfl (q8246 hl c0 c1 c2) rfl rfl (Nat.le_of_ble_eq_true rfl) (Nat.le_of_ble_eq_true rfl) (Nat.le_of_ble_eq_true rfl) (Nat.le_of_ble_eq_true rfl) (en_hdm (k0 := 6) [] [] rfl (fun _ h => nomatch h) (by decide +kernel) (by decide) t_739 n_750 dL_circle_17) (by decide) rfl (fun h8248 f8249 w8250 => ?_)
  refine x_iconst (M := M_L_circle) dL_circle_19 ?_
  exact x_iret (M := M_L_circle) dL_circle_20 rfl ⟨rfl, (fr_tr f8249 (fun _ h => nomatch h) fr_rf), trivial⟩ (Nat.le_of_ble_eq_true rfl) (Nat.le_of_ble_eq_true rfl)
set_option maxRecDepth 10000 in
theorem q8264 {l : Launch} {E : EE} (hl : l.stackTraces = false) {h : HP} {a0 : Int32} {a1 : Int32} {a2 : Int32} {a3 : Int32} {dg : Int32} (c0 : ¬ (a0.toInt < 0)) (c1 : a0.toInt < 32) (c2 : a1.toInt < 0) (o8256 : ob h 277 = some (.inr (15, (RB dg)))) : en_C l E M_X12_circle 1 0 0 [.ref 277, .int a0, .int a1, .int a2, .int a3] h (pF (some (.int (Int32.ofInt 0))) [277] h (fun h' => ob h' 277 = some (.inr (15, ((RB dg).set 0 (.int (Int32.ofInt 1))))) ∧ True)) := by
  refine en_mk m_X12_circle rfl hl (Nat.le_of_ble_eq_true rfl) ?_
  refine x_aload_n (M := M_X12_circle) dX12_circle_0 rfl ?_
  refine x_iconst (M := M_X12_circle) dX12_circle_1 ?_
  refine y_put (M := M_X12_circle) (ci := 15) (C := RX12) (T := TX12) (N := 135) (ty := tyX12) cl15 dX12_circle_2 o8256 0 (by decide) t_2391 (Or.inl rfl) (Nat.le_of_ble_eq_true rfl) rfl (fun h8257 w8258 f8259 => ?_)
  refine x_aload_n (M := M_X12_circle) dX12_circle_5 rfl ?_
  refine x_iload_n (M := M_X12_circle) dX12_circle_6 rfl ?_
  refine x_callSR (M := M_X12_circle) (M' := M_X12_isPoint) rfl rfl dX12_circle_7 m_X12_isPoint t_3154 t_3155 (q4351 hl c0 c1) rfl rfl (Nat.le_of_ble_eq_true rfl) (Nat.le_of_ble_eq_true rfl) (Nat.le_of_ble_eq_true rfl) (Nat.le_of_ble_eq_true rfl) ?_
  refine x_if_eq (M := M_X12_circle) (tgt := 35) dX12_circle_10 (by decide) (fun q => absurd q (by decide +kernel)) (fun _ => ?_)
  refine x_iload_n (M := M_X12_circle) dX12_circle_13 rfl ?_
  refine x_callSR (M := M_X12_circle) (M' := M_X12_isPoint) rfl rfl dX12_circle_14 m_X12_isPoint t_3154 t_3155 (q6545 hl c2) rfl rfl (Nat.le_of_ble_eq_true rfl) (Nat.le_of_ble_eq_true rfl) (Nat.le_of_ble_eq_true rfl) (Nat.le_of_ble_eq_true rfl) ?_
  refine x_if_eq (M := M_X12_circle) (tgt := 35) dX12_circle_17 (by decide) (fun _ => ?_) (fun q => absurd q (by decide +kernel))
  refine x_iconst (M := M_X12_circle) dX12_circle_35 ?_
  refine x_goto (M := M_X12_circle) (tgt := 40) dX12_circle_36 (by decide) ?_
  refine x_iconst (M := M_X12_circle) dX12_circle_40 ?_
  refine y_callVR (M := M_X12_circle) (M' := M_X12_fails) rfl rfl dX12_circle_41 m_X12_fails t_2805 t_2807 s_157 (q22 hl w8258) rfl rfl w8258 rfl (Nat.le_of_ble_eq_true rfl) (Nat.le_of_ble_eq_true rfl) (Nat.le_of_ble_eq_true rfl) (Nat.le_of_ble_eq_true rfl) (fun h8260 f8261 w8262 => ?_)
  obtain ⟨o8263, -⟩ := w8262
  refine x_if_eq (M := M_X12_circle) (tgt := 49) dX12_circle_44 (by decide) (fun q => absurd q (by decide +kernel)) (fun _ => ?_)
  refine x_iconst (M := M_X12_circle) dX12_circle_47 ?_
  exact x_iret (M := M_X12_circle) dX12_circle_48 rfl ⟨rfl, (fr_tr f8261 (by decide) (fr_tr f8259 (by decide) fr_rf)), ⟨o8263, trivial⟩⟩ (Nat.le_of_ble_eq_true rfl) (Nat.le_of_ble_eq_true rfl)
set_option maxRecDepth 10000 in
theorem lc31_1 {l : Launch} {E : EE} (hl : l.stackTraces = false) (nm : String) {xs : Nat → Int32} (hx : E.2.2.2.2 0 = some (7, xs)) {h : HP} {a0 : Int32} {a1 : Int32} {a2 : Int32} {a3 : Int32} {dg : Int32} (e2 : xs 2 = a0) (e3 : xs 3 = a1) (e4 : xs 4 = a2) (e5 : xs 5 = a3) (c0 : ¬ (a0.toInt < 0)) (c1 : a0.toInt < 32) (c2 : a1.toInt < 0) (o8252 : ob h 32 = some (.inr (14, [.ref 33, .ref 162, .ref 166, .int (0 : Int32), .int (0 : Int32), .int (0 : Int32), .ref 167, .ref 170, .ref 173, .ref 177, .ref 193, .ref 208, .ref 222, .ref 238, .ref 252, .ref 274, .ref 275, .ref 276, .int (0 : Int32)]))) (o8265 : ob h 277 = some (.inr (15, (RB dg)))) : XX l E (M_law nm) 1312 342628 8074320 (fun o _ => o = .inl (some (.int 1))) 2357 [some (.ref 0), some (.ref 32), some (.ref 277), some (.ref 359), some (.int (Int32.ofInt 1)), none, none, none] [] h 328 2463747 := by
  refine x_aload_n (M := (M_law nm)) dL_law_2357 rfl ?_
  refine x_aload_n (M := (M_law nm)) dL_law_2358 rfl ?_
  refine x_iload (M := (M_law nm)) dL_law_2359 rfl ?_
  refine x_iconst (M := (M_law nm)) dL_law_2361 ?_
  refine x_iadd (M := (M_law nm)) dL_law_2362 ?_
  refine x_sald (M := (M_law nm)) dL_law_2363 (by decide) hx (vp_inD (by decide +kernel)) ?_
  refine x_top (M := (M_law nm)) (y := a0) ((congrArg xs (by decide +kernel : ((Int32.ofInt 1) + (Int32.ofInt 1)).toNatClampNeg = 2)).trans e2) ?_
  refine x_aload_n (M := (M_law nm)) dL_law_2364 rfl ?_
  refine x_iload (M := (M_law nm)) dL_law_2365 rfl ?_
  refine x_iconst (M := (M_law nm)) dL_law_2367 ?_
  refine x_iadd (M := (M_law nm)) dL_law_2368 ?_
  refine x_sald (M := (M_law nm)) dL_law_2369 (by decide) hx (vp_inD (by decide +kernel)) ?_
  refine x_top (M := (M_law nm)) (y := a1) ((congrArg xs (by decide +kernel : ((Int32.ofInt 1) + (Int32.ofInt 2)).toNatClampNeg = 3)).trans e3) ?_
  refine x_aload_n (M := (M_law nm)) dL_law_2370 rfl ?_
  refine x_iload (M := (M_law nm)) dL_law_2371 rfl ?_
  refine x_iconst (M := (M_law nm)) dL_law_2373 ?_
  refine x_iadd (M := (M_law nm)) dL_law_2374 ?_
  refine x_sald (M := (M_law nm)) dL_law_2375 (by decide) hx (vp_inD (by decide +kernel)) ?_
  refine x_top (M := (M_law nm)) (y := a2) ((congrArg xs (by decide +kernel : ((Int32.ofInt 1) + (Int32.ofInt 3)).toNatClampNeg = 4)).trans e4) ?_
  refine x_aload_n (M := (M_law nm)) dL_law_2376 rfl ?_
  refine x_iload (M := (M_law nm)) dL_law_2377 rfl ?_
  refine x_iconst (M := (M_law nm)) dL_law_2379 ?_
  refine x_iadd (M := (M_law nm)) dL_law_2380 ?_
  refine x_sald (M := (M_law nm)) dL_law_2381 (by decide) hx (vp_inD (by decide +kernel)) ?_
  refine x_top (M := (M_law nm)) (y := a3) ((congrArg xs (by decide +kernel : ((Int32.ofInt 1) + (Int32.ofInt 4)).toNatClampNeg = 5)).trans e5) ?_
  refine x_aload_n (M := (M_law nm)) dL_law_2382 rfl ?_
  refine y_callSW (M := (M_law nm)) (M' := M_L_circle) rfl rfl dL_law_2383 m_L_circle t_2364 t_2365 (q8251 hl c0 c1 c2 o8252) rfl rfl (Nat.le_of_ble_eq_true rfl) (Nat.le_of_ble_eq_true rfl) (Nat.le_of_ble_eq_true rfl) (Nat.le_of_ble_eq_true rfl) (fun h8253 f8254 w8255 => ?_)
  refine x_istore (M := (M_law nm)) dL_law_2386 (Nat.le_of_ble_eq_true rfl) rfl ?_
  refine x_aload_n (M := (M_law nm)) dL_law_2388 rfl ?_
  refine x_aload_n (M := (M_law nm)) dL_law_2389 rfl ?_
  refine x_iload (M := (M_law nm)) dL_law_2390 rfl ?_
  refine x_iconst (M := (M_law nm)) dL_law_2392 ?_
  refine x_iadd (M := (M_law nm)) dL_law_2393 ?_
  refine x_sald (M := (M_law nm)) dL_law_2394 (by decide) hx (vp_inD (by decide +kernel)) ?_
  refine x_top (M := (M_law nm)) (y := a0) ((congrArg xs (by decide +kernel : ((Int32.ofInt 1) + (Int32.ofInt 1)).toNatClampNeg = 2)).trans e2) ?_
  refine x_aload_n (M := (M_law nm)) dL_law_2395 rfl ?_
  refine x_iload (M := (M_law nm)) dL_law_2396 rfl ?_
  refine x_iconst (M := (M_law nm)) dL_law_2398 ?_
  refine x_iadd (M := (M_law nm)) dL_law_2399 ?_
  refine x_sald (M := (M_law nm)) dL_law_2400 (by decide) hx (vp_inD (by decide +kernel)) ?_
  refine x_top (M := (M_law nm)) (y := a1) ((congrArg xs (by decide +kernel : ((Int32.ofInt 1) + (Int32.ofInt 2)).toNatClampNeg = 3)).trans e3) ?_
  refine x_aload_n (M := (M_law nm)) dL_law_2401 rfl ?_
  refine x_iload (M := (M_law nm)) dL_law_2402 rfl ?_
  refine x_iconst (M := (M_law nm)) dL_law_2404 ?_
  refine x_iadd (M := (M_law nm)) dL_law_2405 ?_
  refine x_sald (M := (M_law nm)) dL_law_2406 (by decide) hx (vp_inD (by decide +kernel)) ?_
  refine x_top (M := (M_law nm)) (y := a2) ((congrArg xs (by decide +kernel : ((Int32.ofInt 1) + (Int32.ofInt 3)).toNatClampNeg = 4)).trans e4) ?_
  refine x_aload_n (M := (M_law nm)) dL_law_2407 rfl ?_
  refine x_iload (M := (M_law nm)) dL_law_2408 rfl ?_
  refine x_iconst (M := (M_law nm)) dL_law_2410 ?_
  refine x_iadd (M := (M_law nm)) dL_law_2411 ?_
  refine x_sald (M := (M_law nm)) dL_law_2412 (by decide) hx (vp_inD (by decide +kernel)) ?_
  refine x_top (M := (M_law nm)) (y := a3) ((congrArg xs (by decide +kernel : ((Int32.ofInt 1) + (Int32.ofInt 4)).toNatClampNeg = 5)).trans e5) ?_
  have o8266 := (f8254 277 _ (by decide) o8265)
  refine y_callVR (M := (M_law nm)) (M' := M_X12_circle) rfl rfl dL_law_2413 m_X12_circle t_3198 t_3199 t_3200 (q8264 hl c0 c1 c2 o8266) rfl rfl o8266 rfl (Nat.le_of_ble_eq_true rfl) (Nat.le_of_ble_eq_true rfl) (Nat.le_of_ble_eq_true rfl) (Nat.le_of_ble_eq_true rfl) (fun h8267 f8268 w8269 => ?_)
  obtain ⟨o8270, -⟩ := w8269
  refine x_istore (M := (M_law nm)) dL_law_2416 (Nat.le_of_ble_eq_true rfl) rfl ?_
  refine x_aload_n (M := (M_law nm)) dL_law_2418 rfl ?_
  refine x_callVR (M := (M_law nm)) (M' := M_X12_thrown) rfl rfl dL_law_2419 m_X12_thrown t_2797 t_2798 t_2799 (q35 hl o8270) rfl rfl o8270 rfl (Nat.le_of_ble_eq_true rfl) (Nat.le_of_ble_eq_true rfl) (Nat.le_of_ble_eq_true rfl) (Nat.le_of_ble_eq_true rfl) ?_
  refine x_iload (M := (M_law nm)) dL_law_2422 rfl ?_
  refine x_icmp_eq (M := (M_law nm)) (tgt := 2429) dL_law_2424 (by decide) (fun _ => ?_) (fun q => absurd q (by decide +kernel))
  refine x_iload (M := (M_law nm)) dL_law_2429 rfl ?_
  refine x_if_ne (M := (M_law nm)) (tgt := 2446) dL_law_2431 (by decide) (fun _ => ?_) (fun q => absurd q (by decide +kernel))
  refine x_goto (M := (M_law nm)) (tgt := 2449) dL_law_2446 (by decide) ?_
  refine x_iinc (M := (M_law nm)) dL_law_2449 rfl (Nat.le_of_ble_eq_true rfl) rfl ?_
  refine x_lvs (M := (M_law nm)) (lv' := [some (.ref 0), some (.ref 32), some (.ref 277), some (.ref 359), some (.int (Int32.ofInt 7)), some (.int (Int32.ofInt 1)), some (.int (Int32.ofInt 0)), none]) (by rw [(by decide +kernel : (Int32.ofInt 1) + Int32.ofInt 6 = (Int32.ofInt 7))] <;> rfl) ?_
  refine x_goto (M := (M_law nm)) (tgt := 33) dL_law_2452 (by decide) ?_
  refine x_iload (M := (M_law nm)) dL_law_33 rfl ?_
  refine x_aload_n (M := (M_law nm)) dL_law_35 rfl ?_
  refine x_slen (M := (M_law nm)) dL_law_36 (by decide) hx ?_
  refine x_bipush (M := (M_law nm)) dL_law_37 ?_
  refine x_isub (M := (M_law nm)) dL_law_39 ?_
  refine x_icmp_gt (M := (M_law nm)) (tgt := 2455) dL_law_40 (by decide) (fun _ => ?_) (fun q => absurd q (by decide +kernel))
  refine x_iconst (M := (M_law nm)) dL_law_2455 ?_
  exact x_zret (M := (M_law nm)) dL_law_2456 rfl (by decide) rfl (Nat.le_of_ble_eq_true rfl) (Nat.le_of_ble_eq_true rfl)
set_option maxRecDepth 10000 in
theorem q8272 {l : Launch} {E : EE} (hl : l.stackTraces = false) {h : HP} {a0 : Int32} {a1 : Int32} {a2 : Int32} {a3 : Int32} (c0 : ¬ (a0.toInt < 0)) (c1 : a0.toInt < 32) (c2 : ¬ (a1.toInt < 0)) (c3 : a1.toInt < 32) (c4 : a2.toInt < 0) : en_C l E M_X11_circle 6 1 6 [.ref 32, .int a0, .int a1, .int a2, .int a3] h (pT "java/lang/IndexOutOfBoundsException" [] h (fun _ => True)) := by
  refine en_mk m_X11_circle rfl hl (Nat.le_of_ble_eq_true rfl) ?_
  refine x_iload_n (M := M_X11_circle) dX11_circle_0 rfl ?_
  refine x_callSR (M := M_X11_circle) (M' := M_X11_isNoSignPoint) rfl rfl dX11_circle_1 m_X11_isNoSignPoint t_2309 t_2310 (q4334 hl c0 c1) rfl rfl (Nat.le_of_ble_eq_true rfl) (Nat.le_of_ble_eq_true rfl) (Nat.le_of_ble_eq_true rfl) (Nat.le_of_ble_eq_true rfl) ?_
  refine x_if_ne (M := M_X11_circle) (tgt := 29) dX11_circle_4 (by decide) (fun q => absurd q (by decide +kernel)) (fun _ => ?_)
  refine x_iload_n (M := M_X11_circle) dX11_circle_7 rfl ?_
  refine x_callSR (M := M_X11_circle) (M' := M_X11_isNoSignPoint) rfl rfl dX11_circle_8 m_X11_isNoSignPoint t_2309 t_2310 (q6557 hl c2 c3) rfl rfl (Nat.le_of_ble_eq_true rfl) (Nat.le_of_ble_eq_true rfl) (Nat.le_of_ble_eq_true rfl) (Nat.le_of_ble_eq_true rfl) ?_
  refine x_if_ne (M := M_X11_circle) (tgt := 29) dX11_circle_11 (by decide) (fun q => absurd q (by decide +kernel)) (fun _ => ?_)
  refine x_iload_n (M := M_X11_circle) dX11_circle_14 rfl ?_
  refine x_callSR (M := M_X11_circle) (M' := M_X11_isNoSignPoint) rfl rfl dX11_circle_15 m_X11_isNoSignPoint t_2309 t_2310 (q6558 hl c4) rfl rfl (Nat.le_of_ble_eq_true rfl) (Nat.le_of_ble_eq_true rfl) (Nat.le_of_ble_eq_true rfl) (Nat.le_of_ble_eq_true rfl) ?_
  refine x_if_ne (M := M_X11_circle) (tgt := 29) dX11_circle_18 (by decide) (fun _ => ?_) (fun q => absurd q (by decide +kernel))
  exact x_throw (M := M_X11_circle) (names := en_nm) rfl dX11_circle_29 dX11_circle_32 dX11_circle_33 dX11_circle_36 (by decide +kernel) en_nm_ok (Or.inl t_748) (Or.inl t_22) (at_X11_IndexOutOfBoundsException_139) (Nat.le_of_ble_eq_true rfl) (Nat.le_of_ble_eq_true rfl) (Nat.le_of_ble_eq_true rfl) (Nat.le_of_ble_eq_true rfl) (fun n9 => ⟨rfl, (fr_tr (fr_app (List.replicate n9 none)) (fun _ h => nomatch h) fr_rf), trivial⟩)
set_option maxRecDepth 10000 in
theorem q8277 {l : Launch} {E : EE} (hl : l.stackTraces = false) {h : HP} {a0 : Int32} {a1 : Int32} {a2 : Int32} {a3 : Int32} (c0 : ¬ (a0.toInt < 0)) (c1 : a0.toInt < 32) (c2 : ¬ (a1.toInt < 0)) (c3 : a1.toInt < 32) (c4 : a2.toInt < 0) (o8273 : ob h 32 = some (.inr (14, [.ref 33, .ref 162, .ref 166, .int (0 : Int32), .int (0 : Int32), .int (0 : Int32), .ref 167, .ref 170, .ref 173, .ref 177, .ref 193, .ref 208, .ref 222, .ref 238, .ref 252, .ref 274, .ref 275, .ref 276, .int (0 : Int32)]))) : en_C l E M_L_circle 7 1 6 [.ref 32, .int a0, .int a1, .int a2, .int a3, .ref 359] h (pF (some (.int (Int32.ofInt 1))) [] h (fun _ => True)) := by
  refine en_mkW m_L_circle rfl hl (Nat.le_of_ble_eq_true rfl) ?_
  refine x_aload (M := M_L_circle) dL_circle_0 rfl ?_
  refine x_iconst (M := M_L_circle) dL_circle_2 ?_
  refine x_aload_n (M := M_L_circle) dL_circle_3 rfl ?_
  refine x_iload_n (M := M_L_circle) dL_circle_4 rfl ?_
  refine x_iload_n (M := M_L_circle) dL_circle_5 rfl ?_
  refine x_iload_n (M := M_L_circle) dL_circle_6 rfl ?_
  refine x_iload (M := M_L_circle) dL_circle_7 rfl ?_
  refine y_callVHX (M := M_L_circle) (M' := M_X11_circle) (i9 := 6) (nx := 19) rfl dL_circle_9 m_X11_circle t_2367 t_2368 t_2369 o8273 rfl (q8272 hl c0 c1 c2 c3 c4) rfl rfl (Nat.le_of_ble_eq_true rfl) (Nat.le_of_ble_eq_true rfl) (Nat.le_of_ble_eq_true rfl) (Nat.le_of_ble_eq_true rfl) (en_hdm (k0 := 6) [] [] rfl (fun _ h => nomatch h) (by decide +kernel) (by decide) t_739 n_750 dL_circle_17) (by decide) rfl (fun h8274 f8275 w8276 => ?_)
  refine x_iconst (M := M_L_circle) dL_circle_19 ?_
  exact x_iret (M := M_L_circle) dL_circle_20 rfl ⟨rfl, (fr_tr f8275 (fun _ h => nomatch h) fr_rf), trivial⟩ (Nat.le_of_ble_eq_true rfl) (Nat.le_of_ble_eq_true rfl)
set_option maxRecDepth 10000 in
theorem q8290 {l : Launch} {E : EE} (hl : l.stackTraces = false) {h : HP} {a0 : Int32} {a1 : Int32} {a2 : Int32} {a3 : Int32} {dg : Int32} (c0 : ¬ (a0.toInt < 0)) (c1 : a0.toInt < 32) (c2 : ¬ (a1.toInt < 0)) (c3 : a1.toInt < 32) (c4 : a2.toInt < 0) (o8282 : ob h 277 = some (.inr (15, (RB dg)))) : en_C l E M_X12_circle 1 0 0 [.ref 277, .int a0, .int a1, .int a2, .int a3] h (pF (some (.int (Int32.ofInt 0))) [277] h (fun h' => ob h' 277 = some (.inr (15, ((RB dg).set 0 (.int (Int32.ofInt 1))))) ∧ True)) := by
  refine en_mk m_X12_circle rfl hl (Nat.le_of_ble_eq_true rfl) ?_
  refine x_aload_n (M := M_X12_circle) dX12_circle_0 rfl ?_
  refine x_iconst (M := M_X12_circle) dX12_circle_1 ?_
  refine y_put (M := M_X12_circle) (ci := 15) (C := RX12) (T := TX12) (N := 135) (ty := tyX12) cl15 dX12_circle_2 o8282 0 (by decide) t_2391 (Or.inl rfl) (Nat.le_of_ble_eq_true rfl) rfl (fun h8283 w8284 f8285 => ?_)
  refine x_aload_n (M := M_X12_circle) dX12_circle_5 rfl ?_
  refine x_iload_n (M := M_X12_circle) dX12_circle_6 rfl ?_
  refine x_callSR (M := M_X12_circle) (M' := M_X12_isPoint) rfl rfl dX12_circle_7 m_X12_isPoint t_3154 t_3155 (q4351 hl c0 c1) rfl rfl (Nat.le_of_ble_eq_true rfl) (Nat.le_of_ble_eq_true rfl) (Nat.le_of_ble_eq_true rfl) (Nat.le_of_ble_eq_true rfl) ?_
  refine x_if_eq (M := M_X12_circle) (tgt := 35) dX12_circle_10 (by decide) (fun q => absurd q (by decide +kernel)) (fun _ => ?_)
  refine x_iload_n (M := M_X12_circle) dX12_circle_13 rfl ?_
  refine x_callSR (M := M_X12_circle) (M' := M_X12_isPoint) rfl rfl dX12_circle_14 m_X12_isPoint t_3154 t_3155 (q6574 hl c2 c3) rfl rfl (Nat.le_of_ble_eq_true rfl) (Nat.le_of_ble_eq_true rfl) (Nat.le_of_ble_eq_true rfl) (Nat.le_of_ble_eq_true rfl) ?_
  refine x_if_eq (M := M_X12_circle) (tgt := 35) dX12_circle_17 (by decide) (fun q => absurd q (by decide +kernel)) (fun _ => ?_)
  refine x_iload_n (M := M_X12_circle) dX12_circle_20 rfl ?_
  refine x_callSR (M := M_X12_circle) (M' := M_X12_isPoint) rfl rfl dX12_circle_21 m_X12_isPoint t_3154 t_3155 (q6575 hl c4) rfl rfl (Nat.le_of_ble_eq_true rfl) (Nat.le_of_ble_eq_true rfl) (Nat.le_of_ble_eq_true rfl) (Nat.le_of_ble_eq_true rfl) ?_
  refine x_if_eq (M := M_X12_circle) (tgt := 35) dX12_circle_24 (by decide) (fun _ => ?_) (fun q => absurd q (by decide +kernel))
  refine x_iconst (M := M_X12_circle) dX12_circle_35 ?_
  refine x_goto (M := M_X12_circle) (tgt := 40) dX12_circle_36 (by decide) ?_
  refine x_iconst (M := M_X12_circle) dX12_circle_40 ?_
  refine y_callVR (M := M_X12_circle) (M' := M_X12_fails) rfl rfl dX12_circle_41 m_X12_fails t_2805 t_2807 s_157 (q22 hl w8284) rfl rfl w8284 rfl (Nat.le_of_ble_eq_true rfl) (Nat.le_of_ble_eq_true rfl) (Nat.le_of_ble_eq_true rfl) (Nat.le_of_ble_eq_true rfl) (fun h8286 f8287 w8288 => ?_)
  obtain ⟨o8289, -⟩ := w8288
  refine x_if_eq (M := M_X12_circle) (tgt := 49) dX12_circle_44 (by decide) (fun q => absurd q (by decide +kernel)) (fun _ => ?_)
  refine x_iconst (M := M_X12_circle) dX12_circle_47 ?_
  exact x_iret (M := M_X12_circle) dX12_circle_48 rfl ⟨rfl, (fr_tr f8287 (by decide) (fr_tr f8285 (by decide) fr_rf)), ⟨o8289, trivial⟩⟩ (Nat.le_of_ble_eq_true rfl) (Nat.le_of_ble_eq_true rfl)
set_option maxRecDepth 10000 in
theorem lc31_2 {l : Launch} {E : EE} (hl : l.stackTraces = false) (nm : String) {xs : Nat → Int32} (hx : E.2.2.2.2 0 = some (7, xs)) {h : HP} {a0 : Int32} {a1 : Int32} {a2 : Int32} {a3 : Int32} {dg : Int32} (e2 : xs 2 = a0) (e3 : xs 3 = a1) (e4 : xs 4 = a2) (e5 : xs 5 = a3) (c0 : ¬ (a0.toInt < 0)) (c1 : a0.toInt < 32) (c2 : ¬ (a1.toInt < 0)) (c3 : a1.toInt < 32) (c4 : a2.toInt < 0) (o8278 : ob h 32 = some (.inr (14, [.ref 33, .ref 162, .ref 166, .int (0 : Int32), .int (0 : Int32), .int (0 : Int32), .ref 167, .ref 170, .ref 173, .ref 177, .ref 193, .ref 208, .ref 222, .ref 238, .ref 252, .ref 274, .ref 275, .ref 276, .int (0 : Int32)]))) (o8291 : ob h 277 = some (.inr (15, (RB dg)))) : XX l E (M_law nm) 1312 342628 8074320 (fun o _ => o = .inl (some (.int 1))) 2357 [some (.ref 0), some (.ref 32), some (.ref 277), some (.ref 359), some (.int (Int32.ofInt 1)), none, none, none] [] h 328 2463747 := by
  refine x_aload_n (M := (M_law nm)) dL_law_2357 rfl ?_
  refine x_aload_n (M := (M_law nm)) dL_law_2358 rfl ?_
  refine x_iload (M := (M_law nm)) dL_law_2359 rfl ?_
  refine x_iconst (M := (M_law nm)) dL_law_2361 ?_
  refine x_iadd (M := (M_law nm)) dL_law_2362 ?_
  refine x_sald (M := (M_law nm)) dL_law_2363 (by decide) hx (vp_inD (by decide +kernel)) ?_
  refine x_top (M := (M_law nm)) (y := a0) ((congrArg xs (by decide +kernel : ((Int32.ofInt 1) + (Int32.ofInt 1)).toNatClampNeg = 2)).trans e2) ?_
  refine x_aload_n (M := (M_law nm)) dL_law_2364 rfl ?_
  refine x_iload (M := (M_law nm)) dL_law_2365 rfl ?_
  refine x_iconst (M := (M_law nm)) dL_law_2367 ?_
  refine x_iadd (M := (M_law nm)) dL_law_2368 ?_
  refine x_sald (M := (M_law nm)) dL_law_2369 (by decide) hx (vp_inD (by decide +kernel)) ?_
  refine x_top (M := (M_law nm)) (y := a1) ((congrArg xs (by decide +kernel : ((Int32.ofInt 1) + (Int32.ofInt 2)).toNatClampNeg = 3)).trans e3) ?_
  refine x_aload_n (M := (M_law nm)) dL_law_2370 rfl ?_
  refine x_iload (M := (M_law nm)) dL_law_2371 rfl ?_
  refine x_iconst (M := (M_law nm)) dL_law_2373 ?_
  refine x_iadd (M := (M_law nm)) dL_law_2374 ?_
  refine x_sald (M := (M_law nm)) dL_law_2375 (by decide) hx (vp_inD (by decide +kernel)) ?_
  refine x_top (M := (M_law nm)) (y := a2) ((congrArg xs (by decide +kernel : ((Int32.ofInt 1) + (Int32.ofInt 3)).toNatClampNeg = 4)).trans e4) ?_
  refine x_aload_n (M := (M_law nm)) dL_law_2376 rfl ?_
  refine x_iload (M := (M_law nm)) dL_law_2377 rfl ?_
  refine x_iconst (M := (M_law nm)) dL_law_2379 ?_
  refine x_iadd (M := (M_law nm)) dL_law_2380 ?_
  refine x_sald (M := (M_law nm)) dL_law_2381 (by decide) hx (vp_inD (by decide +kernel)) ?_
  refine x_top (M := (M_law nm)) (y := a3) ((congrArg xs (by decide +kernel : ((Int32.ofInt 1) + (Int32.ofInt 4)).toNatClampNeg = 5)).trans e5) ?_
  refine x_aload_n (M := (M_law nm)) dL_law_2382 rfl ?_
  refine y_callSW (M := (M_law nm)) (M' := M_L_circle) rfl rfl dL_law_2383 m_L_circle t_2364 t_2365 (q8277 hl c0 c1 c2 c3 c4 o8278) rfl rfl (Nat.le_of_ble_eq_true rfl) (Nat.le_of_ble_eq_true rfl) (Nat.le_of_ble_eq_true rfl) (Nat.le_of_ble_eq_true rfl) (fun h8279 f8280 w8281 => ?_)
  refine x_istore (M := (M_law nm)) dL_law_2386 (Nat.le_of_ble_eq_true rfl) rfl ?_
  refine x_aload_n (M := (M_law nm)) dL_law_2388 rfl ?_
  refine x_aload_n (M := (M_law nm)) dL_law_2389 rfl ?_
  refine x_iload (M := (M_law nm)) dL_law_2390 rfl ?_
  refine x_iconst (M := (M_law nm)) dL_law_2392 ?_
  refine x_iadd (M := (M_law nm)) dL_law_2393 ?_
  refine x_sald (M := (M_law nm)) dL_law_2394 (by decide) hx (vp_inD (by decide +kernel)) ?_
  refine x_top (M := (M_law nm)) (y := a0) ((congrArg xs (by decide +kernel : ((Int32.ofInt 1) + (Int32.ofInt 1)).toNatClampNeg = 2)).trans e2) ?_
  refine x_aload_n (M := (M_law nm)) dL_law_2395 rfl ?_
  refine x_iload (M := (M_law nm)) dL_law_2396 rfl ?_
  refine x_iconst (M := (M_law nm)) dL_law_2398 ?_
  refine x_iadd (M := (M_law nm)) dL_law_2399 ?_
  refine x_sald (M := (M_law nm)) dL_law_2400 (by decide) hx (vp_inD (by decide +kernel)) ?_
  refine x_top (M := (M_law nm)) (y := a1) ((congrArg xs (by decide +kernel : ((Int32.ofInt 1) + (Int32.ofInt 2)).toNatClampNeg = 3)).trans e3) ?_
  refine x_aload_n (M := (M_law nm)) dL_law_2401 rfl ?_
  refine x_iload (M := (M_law nm)) dL_law_2402 rfl ?_
  refine x_iconst (M := (M_law nm)) dL_law_2404 ?_
  refine x_iadd (M := (M_law nm)) dL_law_2405 ?_
  refine x_sald (M := (M_law nm)) dL_law_2406 (by decide) hx (vp_inD (by decide +kernel)) ?_
  refine x_top (M := (M_law nm)) (y := a2) ((congrArg xs (by decide +kernel : ((Int32.ofInt 1) + (Int32.ofInt 3)).toNatClampNeg = 4)).trans e4) ?_
  refine x_aload_n (M := (M_law nm)) dL_law_2407 rfl ?_
  refine x_iload (M := (M_law nm)) dL_law_2408 rfl ?_
  refine x_iconst (M := (M_law nm)) dL_law_2410 ?_
  refine x_iadd (M := (M_law nm)) dL_law_2411 ?_
  refine x_sald (M := (M_law nm)) dL_law_2412 (by decide) hx (vp_inD (by decide +kernel)) ?_
  refine x_top (M := (M_law nm)) (y := a3) ((congrArg xs (by decide +kernel : ((Int32.ofInt 1) + (Int32.ofInt 4)).toNatClampNeg = 5)).trans e5) ?_
  have o8292 := (f8280 277 _ (by decide) o8291)
  refine y_callVR (M := (M_law nm)) (M' := M_X12_circle) rfl rfl dL_law_2413 m_X12_circle t_3198 t_3199 t_3200 (q8290 hl c0 c1 c2 c3 c4 o8292) rfl rfl o8292 rfl (Nat.le_of_ble_eq_true rfl) (Nat.le_of_ble_eq_true rfl) (Nat.le_of_ble_eq_true rfl) (Nat.le_of_ble_eq_true rfl) (fun h8293 f8294 w8295 => ?_)
  obtain ⟨o8296, -⟩ := w8295
  refine x_istore (M := (M_law nm)) dL_law_2416 (Nat.le_of_ble_eq_true rfl) rfl ?_
  refine x_aload_n (M := (M_law nm)) dL_law_2418 rfl ?_
  refine x_callVR (M := (M_law nm)) (M' := M_X12_thrown) rfl rfl dL_law_2419 m_X12_thrown t_2797 t_2798 t_2799 (q35 hl o8296) rfl rfl o8296 rfl (Nat.le_of_ble_eq_true rfl) (Nat.le_of_ble_eq_true rfl) (Nat.le_of_ble_eq_true rfl) (Nat.le_of_ble_eq_true rfl) ?_
  refine x_iload (M := (M_law nm)) dL_law_2422 rfl ?_
  refine x_icmp_eq (M := (M_law nm)) (tgt := 2429) dL_law_2424 (by decide) (fun _ => ?_) (fun q => absurd q (by decide +kernel))
  refine x_iload (M := (M_law nm)) dL_law_2429 rfl ?_
  refine x_if_ne (M := (M_law nm)) (tgt := 2446) dL_law_2431 (by decide) (fun _ => ?_) (fun q => absurd q (by decide +kernel))
  refine x_goto (M := (M_law nm)) (tgt := 2449) dL_law_2446 (by decide) ?_
  refine x_iinc (M := (M_law nm)) dL_law_2449 rfl (Nat.le_of_ble_eq_true rfl) rfl ?_
  refine x_lvs (M := (M_law nm)) (lv' := [some (.ref 0), some (.ref 32), some (.ref 277), some (.ref 359), some (.int (Int32.ofInt 7)), some (.int (Int32.ofInt 1)), some (.int (Int32.ofInt 0)), none]) (by rw [(by decide +kernel : (Int32.ofInt 1) + Int32.ofInt 6 = (Int32.ofInt 7))] <;> rfl) ?_
  refine x_goto (M := (M_law nm)) (tgt := 33) dL_law_2452 (by decide) ?_
  refine x_iload (M := (M_law nm)) dL_law_33 rfl ?_
  refine x_aload_n (M := (M_law nm)) dL_law_35 rfl ?_
  refine x_slen (M := (M_law nm)) dL_law_36 (by decide) hx ?_
  refine x_bipush (M := (M_law nm)) dL_law_37 ?_
  refine x_isub (M := (M_law nm)) dL_law_39 ?_
  refine x_icmp_gt (M := (M_law nm)) (tgt := 2455) dL_law_40 (by decide) (fun _ => ?_) (fun q => absurd q (by decide +kernel))
  refine x_iconst (M := (M_law nm)) dL_law_2455 ?_
  exact x_zret (M := (M_law nm)) dL_law_2456 rfl (by decide) rfl (Nat.le_of_ble_eq_true rfl) (Nat.le_of_ble_eq_true rfl)
set_option maxRecDepth 10000 in
theorem q8297 {l : Launch} {E : EE} (hl : l.stackTraces = false) {h : HP} {a3 : Int32} (c0 : a3.toInt < 0) : en_C l E M_X11_isNoSignPoint 0 0 0 [.int a3] h (pR (some (.int (Int32.ofInt 1))) h) := by
  refine en_mk m_X11_isNoSignPoint rfl hl (Nat.le_of_ble_eq_true rfl) ?_
  refine x_iload_n (M := M_X11_isNoSignPoint) dX11_isNoSignPoint_0 rfl ?_
  refine x_if_lt (M := M_X11_isNoSignPoint) (tgt := 10) dX11_isNoSignPoint_1 (by decide) (fun _ => ?_) (fun q => absurd ((bi_lt rfl (by decide +kernel)).mpr (by omega : (a3.toInt < 0 : Prop))) q)
  refine x_iconst (M := M_X11_isNoSignPoint) dX11_isNoSignPoint_10 ?_
  refine x_goto (M := M_X11_isNoSignPoint) (tgt := 15) dX11_isNoSignPoint_11 (by decide) ?_
  exact x_zret (M := M_X11_isNoSignPoint) dX11_isNoSignPoint_15 rfl (by decide) ⟨rfl, rfl⟩ (Nat.le_of_ble_eq_true rfl) (Nat.le_of_ble_eq_true rfl)
set_option maxRecDepth 10000 in
theorem q8299 {l : Launch} {E : EE} (hl : l.stackTraces = false) {h : HP} {a0 : Int32} {a1 : Int32} {a2 : Int32} {a3 : Int32} (c0 : ¬ (a0.toInt < 0)) (c1 : a0.toInt < 32) (c2 : ¬ (a1.toInt < 0)) (c3 : a1.toInt < 32) (c4 : ¬ (a2.toInt < 0)) (c5 : a2.toInt < 32) (c6 : a3.toInt < 0) : en_C l E M_X11_circle 6 1 6 [.ref 32, .int a0, .int a1, .int a2, .int a3] h (pT "java/lang/IndexOutOfBoundsException" [] h (fun _ => True)) := by
  refine en_mk m_X11_circle rfl hl (Nat.le_of_ble_eq_true rfl) ?_
  refine x_iload_n (M := M_X11_circle) dX11_circle_0 rfl ?_
  refine x_callSR (M := M_X11_circle) (M' := M_X11_isNoSignPoint) rfl rfl dX11_circle_1 m_X11_isNoSignPoint t_2309 t_2310 (q4334 hl c0 c1) rfl rfl (Nat.le_of_ble_eq_true rfl) (Nat.le_of_ble_eq_true rfl) (Nat.le_of_ble_eq_true rfl) (Nat.le_of_ble_eq_true rfl) ?_
  refine x_if_ne (M := M_X11_circle) (tgt := 29) dX11_circle_4 (by decide) (fun q => absurd q (by decide +kernel)) (fun _ => ?_)
  refine x_iload_n (M := M_X11_circle) dX11_circle_7 rfl ?_
  refine x_callSR (M := M_X11_circle) (M' := M_X11_isNoSignPoint) rfl rfl dX11_circle_8 m_X11_isNoSignPoint t_2309 t_2310 (q6557 hl c2 c3) rfl rfl (Nat.le_of_ble_eq_true rfl) (Nat.le_of_ble_eq_true rfl) (Nat.le_of_ble_eq_true rfl) (Nat.le_of_ble_eq_true rfl) ?_
  refine x_if_ne (M := M_X11_circle) (tgt := 29) dX11_circle_11 (by decide) (fun q => absurd q (by decide +kernel)) (fun _ => ?_)
  refine x_iload_n (M := M_X11_circle) dX11_circle_14 rfl ?_
  refine x_callSR (M := M_X11_circle) (M' := M_X11_isNoSignPoint) rfl rfl dX11_circle_15 m_X11_isNoSignPoint t_2309 t_2310 (q6587 hl c4 c5) rfl rfl (Nat.le_of_ble_eq_true rfl) (Nat.le_of_ble_eq_true rfl) (Nat.le_of_ble_eq_true rfl) (Nat.le_of_ble_eq_true rfl) ?_
  refine x_if_ne (M := M_X11_circle) (tgt := 29) dX11_circle_18 (by decide) (fun q => absurd q (by decide +kernel)) (fun _ => ?_)
  refine x_iload (M := M_X11_circle) dX11_circle_21 rfl ?_
  refine x_callSR (M := M_X11_circle) (M' := M_X11_isNoSignPoint) rfl rfl dX11_circle_23 m_X11_isNoSignPoint t_2309 t_2310 (q8297 hl c6) rfl rfl (Nat.le_of_ble_eq_true rfl) (Nat.le_of_ble_eq_true rfl) (Nat.le_of_ble_eq_true rfl) (Nat.le_of_ble_eq_true rfl) ?_
  refine x_if_eq (M := M_X11_circle) (tgt := 37) dX11_circle_26 (by decide) (fun q => absurd q (by decide +kernel)) (fun _ => ?_)
  exact x_throw (M := M_X11_circle) (names := en_nm) rfl dX11_circle_29 dX11_circle_32 dX11_circle_33 dX11_circle_36 (by decide +kernel) en_nm_ok (Or.inl t_748) (Or.inl t_22) (at_X11_IndexOutOfBoundsException_139) (Nat.le_of_ble_eq_true rfl) (Nat.le_of_ble_eq_true rfl) (Nat.le_of_ble_eq_true rfl) (Nat.le_of_ble_eq_true rfl) (fun n9 => ⟨rfl, (fr_tr (fr_app (List.replicate n9 none)) (fun _ h => nomatch h) fr_rf), trivial⟩)
set_option maxRecDepth 10000 in
theorem q8304 {l : Launch} {E : EE} (hl : l.stackTraces = false) {h : HP} {a0 : Int32} {a1 : Int32} {a2 : Int32} {a3 : Int32} (c0 : ¬ (a0.toInt < 0)) (c1 : a0.toInt < 32) (c2 : ¬ (a1.toInt < 0)) (c3 : a1.toInt < 32) (c4 : ¬ (a2.toInt < 0)) (c5 : a2.toInt < 32) (c6 : a3.toInt < 0) (o8300 : ob h 32 = some (.inr (14, [.ref 33, .ref 162, .ref 166, .int (0 : Int32), .int (0 : Int32), .int (0 : Int32), .ref 167, .ref 170, .ref 173, .ref 177, .ref 193, .ref 208, .ref 222, .ref 238, .ref 252, .ref 274, .ref 275, .ref 276, .int (0 : Int32)]))) : en_C l E M_L_circle 7 1 6 [.ref 32, .int a0, .int a1, .int a2, .int a3, .ref 359] h (pF (some (.int (Int32.ofInt 1))) [] h (fun _ => True)) := by
  refine en_mkW m_L_circle rfl hl (Nat.le_of_ble_eq_true rfl) ?_
  refine x_aload (M := M_L_circle) dL_circle_0 rfl ?_
  refine x_iconst (M := M_L_circle) dL_circle_2 ?_
  refine x_aload_n (M := M_L_circle) dL_circle_3 rfl ?_
  refine x_iload_n (M := M_L_circle) dL_circle_4 rfl ?_
  refine x_iload_n (M := M_L_circle) dL_circle_5 rfl ?_
  refine x_iload_n (M := M_L_circle) dL_circle_6 rfl ?_
  refine x_iload (M := M_L_circle) dL_circle_7 rfl ?_
  refine y_callVHX (M := M_L_circle) (M' := M_X11_circle) (i9 := 6) (nx := 19) rfl dL_circle_9 m_X11_circle t_2367 t_2368 t_2369 o8300 rfl (q8299 hl c0 c1 c2 c3 c4 c5 c6) rfl rfl (Nat.le_of_ble_eq_true rfl) (Nat.le_of_ble_eq_true rfl) (Nat.le_of_ble_eq_true rfl) (Nat.le_of_ble_eq_true rfl) (en_hdm (k0 := 6) [] [] rfl (fun _ h => nomatch h) (by decide +kernel) (by decide) t_739 n_750 dL_circle_17) (by decide) rfl (fun h8301 f8302 w8303 => ?_)
  refine x_iconst (M := M_L_circle) dL_circle_19 ?_
  exact x_iret (M := M_L_circle) dL_circle_20 rfl ⟨rfl, (fr_tr f8302 (fun _ h => nomatch h) fr_rf), trivial⟩ (Nat.le_of_ble_eq_true rfl) (Nat.le_of_ble_eq_true rfl)
set_option maxRecDepth 10000 in
theorem q8313 {l : Launch} {E : EE} (hl : l.stackTraces = false) {h : HP} {a3 : Int32} (c0 : a3.toInt < 0) : en_C l E M_X12_isPoint 0 0 0 [.int a3] h (pR (some (.int (Int32.ofInt 0))) h) := by
  refine en_mk m_X12_isPoint rfl hl (Nat.le_of_ble_eq_true rfl) ?_
  refine x_iload_n (M := M_X12_isPoint) dX12_isPoint_0 rfl ?_
  refine x_if_lt (M := M_X12_isPoint) (tgt := 14) dX12_isPoint_1 (by decide) (fun _ => ?_) (fun q => absurd ((bi_lt rfl (by decide +kernel)).mpr (by omega : (a3.toInt < 0 : Prop))) q)
  refine x_iconst (M := M_X12_isPoint) dX12_isPoint_14 ?_
  exact x_zret (M := M_X12_isPoint) dX12_isPoint_15 rfl (by decide) ⟨rfl, rfl⟩ (Nat.le_of_ble_eq_true rfl) (Nat.le_of_ble_eq_true rfl)
set_option maxRecDepth 10000 in
theorem q8318 {l : Launch} {E : EE} (hl : l.stackTraces = false) {h : HP} {a0 : Int32} {a1 : Int32} {a2 : Int32} {a3 : Int32} {dg : Int32} (c0 : ¬ (a0.toInt < 0)) (c1 : a0.toInt < 32) (c2 : ¬ (a1.toInt < 0)) (c3 : a1.toInt < 32) (c4 : ¬ (a2.toInt < 0)) (c5 : a2.toInt < 32) (c6 : a3.toInt < 0) (o8309 : ob h 277 = some (.inr (15, (RB dg)))) : en_C l E M_X12_circle 1 0 0 [.ref 277, .int a0, .int a1, .int a2, .int a3] h (pF (some (.int (Int32.ofInt 0))) [277] h (fun h' => ob h' 277 = some (.inr (15, ((RB dg).set 0 (.int (Int32.ofInt 1))))) ∧ True)) := by
  refine en_mk m_X12_circle rfl hl (Nat.le_of_ble_eq_true rfl) ?_
  refine x_aload_n (M := M_X12_circle) dX12_circle_0 rfl ?_
  refine x_iconst (M := M_X12_circle) dX12_circle_1 ?_
  refine y_put (M := M_X12_circle) (ci := 15) (C := RX12) (T := TX12) (N := 135) (ty := tyX12) cl15 dX12_circle_2 o8309 0 (by decide) t_2391 (Or.inl rfl) (Nat.le_of_ble_eq_true rfl) rfl (fun h8310 w8311 f8312 => ?_)
  refine x_aload_n (M := M_X12_circle) dX12_circle_5 rfl ?_
  refine x_iload_n (M := M_X12_circle) dX12_circle_6 rfl ?_
  refine x_callSR (M := M_X12_circle) (M' := M_X12_isPoint) rfl rfl dX12_circle_7 m_X12_isPoint t_3154 t_3155 (q4351 hl c0 c1) rfl rfl (Nat.le_of_ble_eq_true rfl) (Nat.le_of_ble_eq_true rfl) (Nat.le_of_ble_eq_true rfl) (Nat.le_of_ble_eq_true rfl) ?_
  refine x_if_eq (M := M_X12_circle) (tgt := 35) dX12_circle_10 (by decide) (fun q => absurd q (by decide +kernel)) (fun _ => ?_)
  refine x_iload_n (M := M_X12_circle) dX12_circle_13 rfl ?_
  refine x_callSR (M := M_X12_circle) (M' := M_X12_isPoint) rfl rfl dX12_circle_14 m_X12_isPoint t_3154 t_3155 (q6574 hl c2 c3) rfl rfl (Nat.le_of_ble_eq_true rfl) (Nat.le_of_ble_eq_true rfl) (Nat.le_of_ble_eq_true rfl) (Nat.le_of_ble_eq_true rfl) ?_
  refine x_if_eq (M := M_X12_circle) (tgt := 35) dX12_circle_17 (by decide) (fun q => absurd q (by decide +kernel)) (fun _ => ?_)
  refine x_iload_n (M := M_X12_circle) dX12_circle_20 rfl ?_
  refine x_callSR (M := M_X12_circle) (M' := M_X12_isPoint) rfl rfl dX12_circle_21 m_X12_isPoint t_3154 t_3155 (q7466 hl c4 c5) rfl rfl (Nat.le_of_ble_eq_true rfl) (Nat.le_of_ble_eq_true rfl) (Nat.le_of_ble_eq_true rfl) (Nat.le_of_ble_eq_true rfl) ?_
  refine x_if_eq (M := M_X12_circle) (tgt := 35) dX12_circle_24 (by decide) (fun q => absurd q (by decide +kernel)) (fun _ => ?_)
  refine x_iload (M := M_X12_circle) dX12_circle_27 rfl ?_
  refine x_callSR (M := M_X12_circle) (M' := M_X12_isPoint) rfl rfl dX12_circle_29 m_X12_isPoint t_3154 t_3155 (q8313 hl c6) rfl rfl (Nat.le_of_ble_eq_true rfl) (Nat.le_of_ble_eq_true rfl) (Nat.le_of_ble_eq_true rfl) (Nat.le_of_ble_eq_true rfl) ?_
  refine x_if_ne (M := M_X12_circle) (tgt := 39) dX12_circle_32 (by decide) (fun q => absurd q (by decide +kernel)) (fun _ => ?_)
  refine x_iconst (M := M_X12_circle) dX12_circle_35 ?_
  refine x_goto (M := M_X12_circle) (tgt := 40) dX12_circle_36 (by decide) ?_
  refine x_iconst (M := M_X12_circle) dX12_circle_40 ?_
  refine y_callVR (M := M_X12_circle) (M' := M_X12_fails) rfl rfl dX12_circle_41 m_X12_fails t_2805 t_2807 s_157 (q22 hl w8311) rfl rfl w8311 rfl (Nat.le_of_ble_eq_true rfl) (Nat.le_of_ble_eq_true rfl) (Nat.le_of_ble_eq_true rfl) (Nat.le_of_ble_eq_true rfl) (fun h8314 f8315 w8316 => ?_)
  obtain ⟨o8317, -⟩ := w8316
  refine x_if_eq (M := M_X12_circle) (tgt := 49) dX12_circle_44 (by decide) (fun q => absurd q (by decide +kernel)) (fun _ => ?_)
  refine x_iconst (M := M_X12_circle) dX12_circle_47 ?_
  exact x_iret (M := M_X12_circle) dX12_circle_48 rfl ⟨rfl, (fr_tr f8315 (by decide) (fr_tr f8312 (by decide) fr_rf)), ⟨o8317, trivial⟩⟩ (Nat.le_of_ble_eq_true rfl) (Nat.le_of_ble_eq_true rfl)
set_option maxRecDepth 10000 in
theorem lc31_3 {l : Launch} {E : EE} (hl : l.stackTraces = false) (nm : String) {xs : Nat → Int32} (hx : E.2.2.2.2 0 = some (7, xs)) {h : HP} {a0 : Int32} {a1 : Int32} {a2 : Int32} {a3 : Int32} {dg : Int32} (e2 : xs 2 = a0) (e3 : xs 3 = a1) (e4 : xs 4 = a2) (e5 : xs 5 = a3) (c0 : ¬ (a0.toInt < 0)) (c1 : a0.toInt < 32) (c2 : ¬ (a1.toInt < 0)) (c3 : a1.toInt < 32) (c4 : ¬ (a2.toInt < 0)) (c5 : a2.toInt < 32) (c6 : a3.toInt < 0) (o8305 : ob h 32 = some (.inr (14, [.ref 33, .ref 162, .ref 166, .int (0 : Int32), .int (0 : Int32), .int (0 : Int32), .ref 167, .ref 170, .ref 173, .ref 177, .ref 193, .ref 208, .ref 222, .ref 238, .ref 252, .ref 274, .ref 275, .ref 276, .int (0 : Int32)]))) (o8319 : ob h 277 = some (.inr (15, (RB dg)))) : XX l E (M_law nm) 1312 342628 8074320 (fun o _ => o = .inl (some (.int 1))) 2357 [some (.ref 0), some (.ref 32), some (.ref 277), some (.ref 359), some (.int (Int32.ofInt 1)), none, none, none] [] h 328 2463747 := by
  refine x_aload_n (M := (M_law nm)) dL_law_2357 rfl ?_
  refine x_aload_n (M := (M_law nm)) dL_law_2358 rfl ?_
  refine x_iload (M := (M_law nm)) dL_law_2359 rfl ?_
  refine x_iconst (M := (M_law nm)) dL_law_2361 ?_
  refine x_iadd (M := (M_law nm)) dL_law_2362 ?_
  refine x_sald (M := (M_law nm)) dL_law_2363 (by decide) hx (vp_inD (by decide +kernel)) ?_
  refine x_top (M := (M_law nm)) (y := a0) ((congrArg xs (by decide +kernel : ((Int32.ofInt 1) + (Int32.ofInt 1)).toNatClampNeg = 2)).trans e2) ?_
  refine x_aload_n (M := (M_law nm)) dL_law_2364 rfl ?_
  refine x_iload (M := (M_law nm)) dL_law_2365 rfl ?_
  refine x_iconst (M := (M_law nm)) dL_law_2367 ?_
  refine x_iadd (M := (M_law nm)) dL_law_2368 ?_
  refine x_sald (M := (M_law nm)) dL_law_2369 (by decide) hx (vp_inD (by decide +kernel)) ?_
  refine x_top (M := (M_law nm)) (y := a1) ((congrArg xs (by decide +kernel : ((Int32.ofInt 1) + (Int32.ofInt 2)).toNatClampNeg = 3)).trans e3) ?_
  refine x_aload_n (M := (M_law nm)) dL_law_2370 rfl ?_
  refine x_iload (M := (M_law nm)) dL_law_2371 rfl ?_
  refine x_iconst (M := (M_law nm)) dL_law_2373 ?_
  refine x_iadd (M := (M_law nm)) dL_law_2374 ?_
  refine x_sald (M := (M_law nm)) dL_law_2375 (by decide) hx (vp_inD (by decide +kernel)) ?_
  refine x_top (M := (M_law nm)) (y := a2) ((congrArg xs (by decide +kernel : ((Int32.ofInt 1) + (Int32.ofInt 3)).toNatClampNeg = 4)).trans e4) ?_
  refine x_aload_n (M := (M_law nm)) dL_law_2376 rfl ?_
  refine x_iload (M := (M_law nm)) dL_law_2377 rfl ?_
  refine x_iconst (M := (M_law nm)) dL_law_2379 ?_
  refine x_iadd (M := (M_law nm)) dL_law_2380 ?_
  refine x_sald (M := (M_law nm)) dL_law_2381 (by decide) hx (vp_inD (by decide +kernel)) ?_
  refine x_top (M := (M_law nm)) (y := a3) ((congrArg xs (by decide +kernel : ((Int32.ofInt 1) + (Int32.ofInt 4)).toNatClampNeg = 5)).trans e5) ?_
  refine x_aload_n (M := (M_law nm)) dL_law_2382 rfl ?_
  refine y_callSW (M := (M_law nm)) (M' := M_L_circle) rfl rfl dL_law_2383 m_L_circle t_2364 t_2365 (q8304 hl c0 c1 c2 c3 c4 c5 c6 o8305) rfl rfl (Nat.le_of_ble_eq_true rfl) (Nat.le_of_ble_eq_true rfl) (Nat.le_of_ble_eq_true rfl) (Nat.le_of_ble_eq_true rfl) (fun h8306 f8307 w8308 => ?_)
  refine x_istore (M := (M_law nm)) dL_law_2386 (Nat.le_of_ble_eq_true rfl) rfl ?_
  refine x_aload_n (M := (M_law nm)) dL_law_2388 rfl ?_
  refine x_aload_n (M := (M_law nm)) dL_law_2389 rfl ?_
  refine x_iload (M := (M_law nm)) dL_law_2390 rfl ?_
  refine x_iconst (M := (M_law nm)) dL_law_2392 ?_
  refine x_iadd (M := (M_law nm)) dL_law_2393 ?_
  refine x_sald (M := (M_law nm)) dL_law_2394 (by decide) hx (vp_inD (by decide +kernel)) ?_
  refine x_top (M := (M_law nm)) (y := a0) ((congrArg xs (by decide +kernel : ((Int32.ofInt 1) + (Int32.ofInt 1)).toNatClampNeg = 2)).trans e2) ?_
  refine x_aload_n (M := (M_law nm)) dL_law_2395 rfl ?_
  refine x_iload (M := (M_law nm)) dL_law_2396 rfl ?_
  refine x_iconst (M := (M_law nm)) dL_law_2398 ?_
  refine x_iadd (M := (M_law nm)) dL_law_2399 ?_
  refine x_sald (M := (M_law nm)) dL_law_2400 (by decide) hx (vp_inD (by decide +kernel)) ?_
  refine x_top (M := (M_law nm)) (y := a1) ((congrArg xs (by decide +kernel : ((Int32.ofInt 1) + (Int32.ofInt 2)).toNatClampNeg = 3)).trans e3) ?_
  refine x_aload_n (M := (M_law nm)) dL_law_2401 rfl ?_
  refine x_iload (M := (M_law nm)) dL_law_2402 rfl ?_
  refine x_iconst (M := (M_law nm)) dL_law_2404 ?_
  refine x_iadd (M := (M_law nm)) dL_law_2405 ?_
  refine x_sald (M := (M_law nm)) dL_law_2406 (by decide) hx (vp_inD (by decide +kernel)) ?_
  refine x_top (M := (M_law nm)) (y := a2) ((congrArg xs (by decide +kernel : ((Int32.ofInt 1) + (Int32.ofInt 3)).toNatClampNeg = 4)).trans e4) ?_
  refine x_aload_n (M := (M_law nm)) dL_law_2407 rfl ?_
  refine x_iload (M := (M_law nm)) dL_law_2408 rfl ?_
  refine x_iconst (M := (M_law nm)) dL_law_2410 ?_
  refine x_iadd (M := (M_law nm)) dL_law_2411 ?_
  refine x_sald (M := (M_law nm)) dL_law_2412 (by decide) hx (vp_inD (by decide +kernel)) ?_
  refine x_top (M := (M_law nm)) (y := a3) ((congrArg xs (by decide +kernel : ((Int32.ofInt 1) + (Int32.ofInt 4)).toNatClampNeg = 5)).trans e5) ?_
  have o8320 := (f8307 277 _ (by decide) o8319)
  refine y_callVR (M := (M_law nm)) (M' := M_X12_circle) rfl rfl dL_law_2413 m_X12_circle t_3198 t_3199 t_3200 (q8318 hl c0 c1 c2 c3 c4 c5 c6 o8320) rfl rfl o8320 rfl (Nat.le_of_ble_eq_true rfl) (Nat.le_of_ble_eq_true rfl) (Nat.le_of_ble_eq_true rfl) (Nat.le_of_ble_eq_true rfl) (fun h8321 f8322 w8323 => ?_)
  obtain ⟨o8324, -⟩ := w8323
  refine x_istore (M := (M_law nm)) dL_law_2416 (Nat.le_of_ble_eq_true rfl) rfl ?_
  refine x_aload_n (M := (M_law nm)) dL_law_2418 rfl ?_
  refine x_callVR (M := (M_law nm)) (M' := M_X12_thrown) rfl rfl dL_law_2419 m_X12_thrown t_2797 t_2798 t_2799 (q35 hl o8324) rfl rfl o8324 rfl (Nat.le_of_ble_eq_true rfl) (Nat.le_of_ble_eq_true rfl) (Nat.le_of_ble_eq_true rfl) (Nat.le_of_ble_eq_true rfl) ?_
  refine x_iload (M := (M_law nm)) dL_law_2422 rfl ?_
  refine x_icmp_eq (M := (M_law nm)) (tgt := 2429) dL_law_2424 (by decide) (fun _ => ?_) (fun q => absurd q (by decide +kernel))
  refine x_iload (M := (M_law nm)) dL_law_2429 rfl ?_
  refine x_if_ne (M := (M_law nm)) (tgt := 2446) dL_law_2431 (by decide) (fun _ => ?_) (fun q => absurd q (by decide +kernel))
  refine x_goto (M := (M_law nm)) (tgt := 2449) dL_law_2446 (by decide) ?_
  refine x_iinc (M := (M_law nm)) dL_law_2449 rfl (Nat.le_of_ble_eq_true rfl) rfl ?_
  refine x_lvs (M := (M_law nm)) (lv' := [some (.ref 0), some (.ref 32), some (.ref 277), some (.ref 359), some (.int (Int32.ofInt 7)), some (.int (Int32.ofInt 1)), some (.int (Int32.ofInt 0)), none]) (by rw [(by decide +kernel : (Int32.ofInt 1) + Int32.ofInt 6 = (Int32.ofInt 7))] <;> rfl) ?_
  refine x_goto (M := (M_law nm)) (tgt := 33) dL_law_2452 (by decide) ?_
  refine x_iload (M := (M_law nm)) dL_law_33 rfl ?_
  refine x_aload_n (M := (M_law nm)) dL_law_35 rfl ?_
  refine x_slen (M := (M_law nm)) dL_law_36 (by decide) hx ?_
  refine x_bipush (M := (M_law nm)) dL_law_37 ?_
  refine x_isub (M := (M_law nm)) dL_law_39 ?_
  refine x_icmp_gt (M := (M_law nm)) (tgt := 2455) dL_law_40 (by decide) (fun _ => ?_) (fun q => absurd q (by decide +kernel))
  refine x_iconst (M := (M_law nm)) dL_law_2455 ?_
  exact x_zret (M := (M_law nm)) dL_law_2456 rfl (by decide) rfl (Nat.le_of_ble_eq_true rfl) (Nat.le_of_ble_eq_true rfl)
set_option maxRecDepth 10000 in
theorem q8325 {l : Launch} {E : EE} (hl : l.stackTraces = false) {h : HP} {a3 : Int32} (c0 : ¬ (a3.toInt < 0)) (c1 : a3.toInt < 32) : en_C l E M_X11_isNoSignPoint 0 0 0 [.int a3] h (pR (some (.int (Int32.ofInt 0))) h) := by
  refine en_mk m_X11_isNoSignPoint rfl hl (Nat.le_of_ble_eq_true rfl) ?_
  refine x_iload_n (M := M_X11_isNoSignPoint) dX11_isNoSignPoint_0 rfl ?_
  refine x_if_lt (M := M_X11_isNoSignPoint) (tgt := 10) dX11_isNoSignPoint_1 (by decide) (fun q => absurd ((bi_lt rfl (by decide +kernel)).mp q) (by omega : ¬ (a3.toInt < 0))) (fun _ => ?_)
  refine x_iload_n (M := M_X11_isNoSignPoint) dX11_isNoSignPoint_4 rfl ?_
  refine x_bipush (M := M_X11_isNoSignPoint) dX11_isNoSignPoint_5 ?_
  refine x_icmp_lt (M := M_X11_isNoSignPoint) (tgt := 14) dX11_isNoSignPoint_7 (by decide) (fun _ => ?_) (fun q => absurd ((bi_lt rfl (by decide +kernel)).mpr (by omega : (a3.toInt < 32 : Prop))) q)
  refine x_iconst (M := M_X11_isNoSignPoint) dX11_isNoSignPoint_14 ?_
  exact x_zret (M := M_X11_isNoSignPoint) dX11_isNoSignPoint_15 rfl (by decide) ⟨rfl, rfl⟩ (Nat.le_of_ble_eq_true rfl) (Nat.le_of_ble_eq_true rfl)
set_option maxRecDepth 10000 in
theorem q8422 {l : Launch} {E : EE} (hl : l.stackTraces = false) {h : HP} (o8408 : ob h 252 = some (.inr (10, [.ref 253, .ref 254, .ref 255, .ref 272, .ref 273]))) (o8409 : ob h 272 = some (.inl (0, 16, .inl (fun _ => 0)))) (o8410 : ob h 255 = some (.inl (5, 16, .inr (.inr (.inr (.inr (fun i => if i < 16 then some (255 + 1 + i) else none))))))) (o8411 : ob h 262 = some (.inl (0, 280, .inl (fun _ => 0)))) : en_C l E M_X7_addLimbs 1 0 0 [.ref 252, .int (Int32.ofInt 6), .int (Int32.ofInt 0), .int (Int32.ofInt 1), .int (Int32.ofInt 1)] h (pF none [262, 272] h (fun h' => ob h' 262 = some (.inl (0, 280, .inl (fun _ => 0))) ∧ ob h' 272 = some (.inl (0, 16, .inl (upd (fun _ => 0) 6 (Int32.ofInt 1)))) ∧ True)) := by
  refine en_mk m_X7_addLimbs rfl hl (Nat.le_of_ble_eq_true rfl) ?_
  refine x_aload_n (M := M_X7_addLimbs) dX7_addLimbs_0 rfl ?_
  refine x_getf (M := M_X7_addLimbs) (ci := 10) (C := RX7) (T := TX7) (N := 5) (ty := tyX7) cl10 dX7_addLimbs_1 o8408 3 (by decide) t_550 (v := .ref 272) rfl ?_
  refine x_iload_n (M := M_X7_addLimbs) dX7_addLimbs_4 rfl ?_
  refine x_iald (M := M_X7_addLimbs) dX7_addLimbs_5 o8409 (vp_inD (by decide +kernel)) ?_
  refine x_top (M := M_X7_addLimbs) (y := (Int32.ofInt 0)) (by decide +kernel) ?_
  refine x_aload_n (M := M_X7_addLimbs) dX7_addLimbs_6 rfl ?_
  refine x_getf (M := M_X7_addLimbs) (ci := 10) (C := RX7) (T := TX7) (N := 5) (ty := tyX7) cl10 dX7_addLimbs_7 o8408 3 (by decide) t_550 (v := .ref 272) rfl ?_
  refine x_iload_n (M := M_X7_addLimbs) dX7_addLimbs_10 rfl ?_
  refine x_iald (M := M_X7_addLimbs) dX7_addLimbs_11 o8409 (vp_inD (by decide +kernel)) ?_
  refine x_top (M := M_X7_addLimbs) (y := (Int32.ofInt 0)) (by decide +kernel) ?_
  refine x_mmax (M := M_X7_addLimbs) dX7_addLimbs_12 t_2336 t_1013 t_20 t_1014 (Nat.le_of_ble_eq_true rfl) (Nat.le_of_ble_eq_true rfl) (Nat.le_of_ble_eq_true rfl) (Nat.le_of_ble_eq_true rfl) ?_
  refine x_top (M := M_X7_addLimbs) (y := (Int32.ofInt 0)) (by decide +kernel) ?_
  refine x_iconst (M := M_X7_addLimbs) dX7_addLimbs_15 ?_
  refine x_iadd (M := M_X7_addLimbs) dX7_addLimbs_16 ?_
  refine x_sipush (M := M_X7_addLimbs) dX7_addLimbs_17 ?_
  refine x_mmin (M := M_X7_addLimbs) dX7_addLimbs_20 t_2351 t_626 t_20 t_627 (Nat.le_of_ble_eq_true rfl) (Nat.le_of_ble_eq_true rfl) (Nat.le_of_ble_eq_true rfl) (Nat.le_of_ble_eq_true rfl) ?_
  refine x_top (M := M_X7_addLimbs) (y := (Int32.ofInt 1)) (by decide +kernel) ?_
  refine x_istore (M := M_X7_addLimbs) dX7_addLimbs_23 (Nat.le_of_ble_eq_true rfl) rfl ?_
  refine x_lconst (M := M_X7_addLimbs) dX7_addLimbs_25 ?_
  refine x_topl (M := M_X7_addLimbs) (y := (Int64.ofInt 0)) (by decide +kernel) ?_
  refine x_lstore (M := M_X7_addLimbs) dX7_addLimbs_26 (Nat.le_of_ble_eq_true rfl) rfl ?_
  refine x_iconst (M := M_X7_addLimbs) dX7_addLimbs_28 ?_
  refine x_istore (M := M_X7_addLimbs) dX7_addLimbs_29 (Nat.le_of_ble_eq_true rfl) rfl ?_
  refine x_iload (M := M_X7_addLimbs) dX7_addLimbs_31 rfl ?_
  refine x_iload (M := M_X7_addLimbs) dX7_addLimbs_33 rfl ?_
  refine x_icmp_ge (M := M_X7_addLimbs) (tgt := 87) dX7_addLimbs_35 (by decide) (fun q => absurd q (by decide +kernel)) (fun _ => ?_)
  refine x_aload_n (M := M_X7_addLimbs) dX7_addLimbs_38 rfl ?_
  refine x_iload_n (M := M_X7_addLimbs) dX7_addLimbs_39 rfl ?_
  refine x_iload (M := M_X7_addLimbs) dX7_addLimbs_40 rfl ?_
  refine x_callVR (M := M_X7_addLimbs) (M' := M_X7_limbAt) rfl rfl dX7_addLimbs_42 m_X7_limbAt t_2352 t_2354 s_153 (q6805 hl o8408 o8409) rfl rfl o8408 rfl (Nat.le_of_ble_eq_true rfl) (Nat.le_of_ble_eq_true rfl) (Nat.le_of_ble_eq_true rfl) (Nat.le_of_ble_eq_true rfl) ?_
  refine x_iload (M := M_X7_addLimbs) dX7_addLimbs_45 rfl ?_
  refine x_i2l (M := M_X7_addLimbs) dX7_addLimbs_47 ?_
  refine x_aload_n (M := M_X7_addLimbs) dX7_addLimbs_48 rfl ?_
  refine x_iload_n (M := M_X7_addLimbs) dX7_addLimbs_49 rfl ?_
  refine x_iload (M := M_X7_addLimbs) dX7_addLimbs_50 rfl ?_
  refine x_callVR (M := M_X7_addLimbs) (M' := M_X7_limbAt) rfl rfl dX7_addLimbs_52 m_X7_limbAt t_2352 t_2354 s_153 (q6808 hl o8408 o8409) rfl rfl o8408 rfl (Nat.le_of_ble_eq_true rfl) (Nat.le_of_ble_eq_true rfl) (Nat.le_of_ble_eq_true rfl) (Nat.le_of_ble_eq_true rfl) ?_
  refine x_lmul (M := M_X7_addLimbs) dX7_addLimbs_55 ?_
  refine x_ladd (M := M_X7_addLimbs) dX7_addLimbs_56 ?_
  refine x_lload (M := M_X7_addLimbs) dX7_addLimbs_57 rfl ?_
  refine x_ladd (M := M_X7_addLimbs) dX7_addLimbs_59 ?_
  refine x_topl (M := M_X7_addLimbs) (y := (Int64.ofInt 0)) (by decide +kernel) ?_
  refine x_lstore (M := M_X7_addLimbs) dX7_addLimbs_60 (Nat.le_of_ble_eq_true rfl) rfl ?_
  refine x_aload_n (M := M_X7_addLimbs) dX7_addLimbs_62 rfl ?_
  refine x_getf (M := M_X7_addLimbs) (ci := 10) (C := RX7) (T := TX7) (N := 5) (ty := tyX7) cl10 dX7_addLimbs_63 o8408 2 (by decide) t_549 (v := .ref 255) rfl ?_
  refine x_iload_n (M := M_X7_addLimbs) dX7_addLimbs_66 rfl ?_
  refine x_gald (M := M_X7_addLimbs) (b := 262) dX7_addLimbs_67 o8410 (vp_inD (by decide +kernel)) (by decide +kernel) ?_
  refine x_iload (M := M_X7_addLimbs) dX7_addLimbs_68 rfl ?_
  refine x_lload (M := M_X7_addLimbs) dX7_addLimbs_70 rfl ?_
  refine x_l2i (M := M_X7_addLimbs) dX7_addLimbs_72 ?_
  refine x_norm (M := M_X7_addLimbs) (st' := [.int (Int32.ofInt 0), .int (Int32.ofInt 0), .ref 262]) rfl (vi_cons (by decide +kernel : ((Int64.ofInt 0).toInt32) = (Int32.ofInt 0)) rfl) rfl rfl rfl ?_
  refine y_iast (M := M_X7_addLimbs) (k := 0) dX7_addLimbs_73 o8411 (vp_inD (by decide +kernel)) (by decide +kernel) (fun h8412 w8413 f8414 => ?_)
  have w8415 : ob h8412 262 = some (.inl (0, 280, .inl (fun _ => 0))) := by rw [w8413, up_z (k := 0)]
  refine x_lload (M := M_X7_addLimbs) dX7_addLimbs_74 rfl ?_
  refine x_bipush (M := M_X7_addLimbs) dX7_addLimbs_76 ?_
  refine x_lshr (M := M_X7_addLimbs) dX7_addLimbs_78 ?_
  refine x_topl (M := M_X7_addLimbs) (y := (Int64.ofInt 0)) (by decide +kernel) ?_
  refine x_lstore (M := M_X7_addLimbs) dX7_addLimbs_79 (Nat.le_of_ble_eq_true rfl) rfl ?_
  refine x_lvs (M := M_X7_addLimbs) (lv' := [some (.ref 252), some (.int (Int32.ofInt 6)), some (.int (Int32.ofInt 0)), some (.int (Int32.ofInt 1)), some (.int (Int32.ofInt 1)), some (.int (Int32.ofInt 1)), some (.long (Int64.ofInt 0)), none, some (.int (Int32.ofInt 0)), some (.long (Int64.ofInt 0)), none]) rfl ?_
  refine x_iinc (M := M_X7_addLimbs) dX7_addLimbs_81 rfl (Nat.le_of_ble_eq_true rfl) rfl ?_
  refine x_lvs (M := M_X7_addLimbs) (lv' := [some (.ref 252), some (.int (Int32.ofInt 6)), some (.int (Int32.ofInt 0)), some (.int (Int32.ofInt 1)), some (.int (Int32.ofInt 1)), some (.int (Int32.ofInt 1)), some (.long (Int64.ofInt 0)), none, some (.int (Int32.ofInt 1)), some (.long (Int64.ofInt 0)), none]) (by rw [(by decide +kernel : (Int32.ofInt 0) + Int32.ofInt 1 = (Int32.ofInt 1))] <;> rfl) ?_
  refine x_goto (M := M_X7_addLimbs) (tgt := 31) dX7_addLimbs_84 (by decide) ?_
  refine x_iload (M := M_X7_addLimbs) dX7_addLimbs_31 rfl ?_
  refine x_iload (M := M_X7_addLimbs) dX7_addLimbs_33 rfl ?_
  refine x_icmp_ge (M := M_X7_addLimbs) (tgt := 87) dX7_addLimbs_35 (by decide) (fun _ => ?_) (fun q => absurd q (by decide +kernel))
  refine x_aload_n (M := M_X7_addLimbs) dX7_addLimbs_87 rfl ?_
  have o8416 := (f8414 252 _ (by decide) o8408)
  refine x_getf (M := M_X7_addLimbs) (ci := 10) (C := RX7) (T := TX7) (N := 5) (ty := tyX7) cl10 dX7_addLimbs_88 o8416 3 (by decide) t_550 (v := .ref 272) rfl ?_
  refine x_iload_n (M := M_X7_addLimbs) dX7_addLimbs_91 rfl ?_
  refine x_iload (M := M_X7_addLimbs) dX7_addLimbs_92 rfl ?_
  have o8417 := (f8414 272 _ (by decide) o8409)
  refine y_iast (M := M_X7_addLimbs) (k := 6) dX7_addLimbs_94 o8417 (vp_inD (by decide +kernel)) (by decide +kernel) (fun h8418 w8419 f8420 => ?_)
  have o8421 := (f8420 262 _ (by decide) w8415)
  exact x_vret (M := M_X7_addLimbs) dX7_addLimbs_95 rfl ⟨rfl, (fr_tr f8420 (by decide) (fr_tr f8414 (by decide) fr_rf)), ⟨o8421, w8419, trivial⟩⟩ (Nat.le_of_ble_eq_true rfl) (Nat.le_of_ble_eq_true rfl)
set_option maxRecDepth 10000 in
theorem q8453 {l : Launch} {E : EE} (hl : l.stackTraces = false) {h : HP} (o8437 : ob h 252 = some (.inr (10, [.ref 253, .ref 254, .ref 255, .ref 272, .ref 273]))) (o8438 : ob h 272 = some (.inl (0, 16, .inl (upd (fun _ => 0) 6 (Int32.ofInt 1))))) (o8439 : ob h 255 = some (.inl (5, 16, .inr (.inr (.inr (.inr (fun i => if i < 16 then some (255 + 1 + i) else none))))))) (o8440 : ob h 262 = some (.inl (0, 280, .inl (fun _ => 0)))) (o8446 : ob h 273 = some (.inl (0, 16, .inl (fun _ => 0)))) : en_C l E M_X7_trim 0 0 0 [.ref 252, .int (Int32.ofInt 6)] h (pF none [272, 273] h (fun h' => ob h' 272 = some (.inl (0, 16, .inl (fun _ => 0))) ∧ ob h' 273 = some (.inl (0, 16, .inl (fun _ => 0))) ∧ True)) := by
  refine en_mk m_X7_trim rfl hl (Nat.le_of_ble_eq_true rfl) ?_
  refine x_aload_n (M := M_X7_trim) dX7_trim_0 rfl ?_
  refine x_getf (M := M_X7_trim) (ci := 10) (C := RX7) (T := TX7) (N := 5) (ty := tyX7) cl10 dX7_trim_1 o8437 3 (by decide) t_550 (v := .ref 272) rfl ?_
  refine x_iload_n (M := M_X7_trim) dX7_trim_4 rfl ?_
  refine x_iald (M := M_X7_trim) dX7_trim_5 o8438 (vp_inD (by decide +kernel)) ?_
  refine x_top (M := M_X7_trim) (y := (Int32.ofInt 1)) (by decide +kernel) ?_
  refine x_if_le (M := M_X7_trim) (tgt := 40) dX7_trim_6 (by decide) (fun q => absurd q (by decide +kernel)) (fun _ => ?_)
  refine x_aload_n (M := M_X7_trim) dX7_trim_9 rfl ?_
  refine x_getf (M := M_X7_trim) (ci := 10) (C := RX7) (T := TX7) (N := 5) (ty := tyX7) cl10 dX7_trim_10 o8437 2 (by decide) t_549 (v := .ref 255) rfl ?_
  refine x_iload_n (M := M_X7_trim) dX7_trim_13 rfl ?_
  refine x_gald (M := M_X7_trim) (b := 262) dX7_trim_14 o8439 (vp_inD (by decide +kernel)) (by decide +kernel) ?_
  refine x_aload_n (M := M_X7_trim) dX7_trim_15 rfl ?_
  refine x_getf (M := M_X7_trim) (ci := 10) (C := RX7) (T := TX7) (N := 5) (ty := tyX7) cl10 dX7_trim_16 o8437 3 (by decide) t_550 (v := .ref 272) rfl ?_
  refine x_iload_n (M := M_X7_trim) dX7_trim_19 rfl ?_
  refine x_iald (M := M_X7_trim) dX7_trim_20 o8438 (vp_inD (by decide +kernel)) ?_
  refine x_top (M := M_X7_trim) (y := (Int32.ofInt 1)) (by decide +kernel) ?_
  refine x_iconst (M := M_X7_trim) dX7_trim_21 ?_
  refine x_isub (M := M_X7_trim) dX7_trim_22 ?_
  refine x_iald (M := M_X7_trim) dX7_trim_23 o8440 (vp_inD (by decide +kernel)) ?_
  refine x_top (M := M_X7_trim) (y := (Int32.ofInt 0)) (by decide +kernel) ?_
  refine x_if_ne (M := M_X7_trim) (tgt := 40) dX7_trim_24 (by decide) (fun q => absurd q (by decide +kernel)) (fun _ => ?_)
  refine x_aload_n (M := M_X7_trim) dX7_trim_27 rfl ?_
  refine x_getf (M := M_X7_trim) (ci := 10) (C := RX7) (T := TX7) (N := 5) (ty := tyX7) cl10 dX7_trim_28 o8437 3 (by decide) t_550 (v := .ref 272) rfl ?_
  refine x_iload_n (M := M_X7_trim) dX7_trim_31 rfl ?_
  refine x_dup2 (M := M_X7_trim) dX7_trim_32 rfl rfl ?_
  refine x_iald (M := M_X7_trim) dX7_trim_33 o8438 (vp_inD (by decide +kernel)) ?_
  refine x_top (M := M_X7_trim) (y := (Int32.ofInt 1)) (by decide +kernel) ?_
  refine x_iconst (M := M_X7_trim) dX7_trim_34 ?_
  refine x_isub (M := M_X7_trim) dX7_trim_35 ?_
  refine x_norm (M := M_X7_trim) (st' := [.int (Int32.ofInt 0), .int (Int32.ofInt 6), .ref 272]) rfl (vi_cons (by decide +kernel : ((Int32.ofInt 1) - (Int32.ofInt 1)) = (Int32.ofInt 0)) rfl) rfl rfl rfl ?_
  refine y_iast (M := M_X7_trim) (k := 6) dX7_trim_36 o8438 (vp_inD (by decide +kernel)) (by decide +kernel) (fun h8441 w8442 f8443 => ?_)
  have w8444 : ob h8441 272 = some (.inl (0, 16, .inl (fun _ => 0))) := by rw [w8442, up_up (k := 6), up_z (k := 6)]
  refine x_goto (M := M_X7_trim) (tgt := 0) dX7_trim_37 (by decide) ?_
  refine x_aload_n (M := M_X7_trim) dX7_trim_0 rfl ?_
  have o8445 := (f8443 252 _ (by decide) o8437)
  refine x_getf (M := M_X7_trim) (ci := 10) (C := RX7) (T := TX7) (N := 5) (ty := tyX7) cl10 dX7_trim_1 o8445 3 (by decide) t_550 (v := .ref 272) rfl ?_
  refine x_iload_n (M := M_X7_trim) dX7_trim_4 rfl ?_
  refine x_iald (M := M_X7_trim) dX7_trim_5 w8444 (vp_inD (by decide +kernel)) ?_
  refine x_top (M := M_X7_trim) (y := (Int32.ofInt 0)) (by decide +kernel) ?_
  refine x_if_le (M := M_X7_trim) (tgt := 40) dX7_trim_6 (by decide) (fun _ => ?_) (fun q => absurd q (by decide +kernel))
  refine x_aload_n (M := M_X7_trim) dX7_trim_40 rfl ?_
  refine x_getf (M := M_X7_trim) (ci := 10) (C := RX7) (T := TX7) (N := 5) (ty := tyX7) cl10 dX7_trim_41 o8445 3 (by decide) t_550 (v := .ref 272) rfl ?_
  refine x_iload_n (M := M_X7_trim) dX7_trim_44 rfl ?_
  refine x_iald (M := M_X7_trim) dX7_trim_45 w8444 (vp_inD (by decide +kernel)) ?_
  refine x_top (M := M_X7_trim) (y := (Int32.ofInt 0)) (by decide +kernel) ?_
  refine x_if_ne (M := M_X7_trim) (tgt := 56) dX7_trim_46 (by decide) (fun q => absurd q (by decide +kernel)) (fun _ => ?_)
  refine x_aload_n (M := M_X7_trim) dX7_trim_49 rfl ?_
  refine x_getf (M := M_X7_trim) (ci := 10) (C := RX7) (T := TX7) (N := 5) (ty := tyX7) cl10 dX7_trim_50 o8445 4 (by decide) t_551 (v := .ref 273) rfl ?_
  refine x_iload_n (M := M_X7_trim) dX7_trim_53 rfl ?_
  refine x_iconst (M := M_X7_trim) dX7_trim_54 ?_
  have o8447 := (f8443 273 _ (by decide) o8446)
  refine y_iast (M := M_X7_trim) (k := 6) dX7_trim_55 o8447 (vp_inD (by decide +kernel)) (by decide +kernel) (fun h8448 w8449 f8450 => ?_)
  have w8451 : ob h8448 273 = some (.inl (0, 16, .inl (fun _ => 0))) := by rw [w8449, up_z (k := 6)]
  have o8452 := (f8450 272 _ (by decide) w8444)
  exact x_vret (M := M_X7_trim) dX7_trim_56 rfl ⟨rfl, (fr_tr f8450 (by decide) (fr_tr f8443 (by decide) fr_rf)), ⟨o8452, w8451, trivial⟩⟩ (Nat.le_of_ble_eq_true rfl) (Nat.le_of_ble_eq_true rfl)
set_option maxRecDepth 10000 in
theorem q8464 {l : Launch} {E : EE} (hl : l.stackTraces = false) {h : HP} (o8406 : ob h 252 = some (.inr (10, [.ref 253, .ref 254, .ref 255, .ref 272, .ref 273]))) (o8407 : ob h 273 = some (.inl (0, 16, .inl (fun _ => 0)))) (o8423 : ob h 272 = some (.inl (0, 16, .inl (fun _ => 0)))) (o8424 : ob h 255 = some (.inl (5, 16, .inr (.inr (.inr (.inr (fun i => if i < 16 then some (255 + 1 + i) else none))))))) (o8425 : ob h 262 = some (.inl (0, 280, .inl (fun _ => 0)))) : en_C l E M_X7_addSigned 2 0 0 [.ref 252, .int (Int32.ofInt 6), .int (Int32.ofInt 0), .int (Int32.ofInt 1), .int (Int32.ofInt (-1))] h (pF none [262, 272, 273] h (fun h' => ob h' 262 = some (.inl (0, 280, .inl (fun _ => 0))) ∧ ob h' 272 = some (.inl (0, 16, .inl (fun _ => 0))) ∧ ob h' 273 = some (.inl (0, 16, .inl (fun _ => 0))) ∧ True)) := by
  refine en_mk m_X7_addSigned rfl hl (Nat.le_of_ble_eq_true rfl) ?_
  refine x_aload_n (M := M_X7_addSigned) dX7_addSigned_0 rfl ?_
  refine x_getf (M := M_X7_addSigned) (ci := 10) (C := RX7) (T := TX7) (N := 5) (ty := tyX7) cl10 dX7_addSigned_1 o8406 4 (by decide) t_551 (v := .ref 273) rfl ?_
  refine x_iload_n (M := M_X7_addSigned) dX7_addSigned_4 rfl ?_
  refine x_iald (M := M_X7_addSigned) dX7_addSigned_5 o8407 (vp_inD (by decide +kernel)) ?_
  refine x_top (M := M_X7_addSigned) (y := (Int32.ofInt 0)) (by decide +kernel) ?_
  refine x_iload (M := M_X7_addSigned) dX7_addSigned_6 rfl ?_
  refine x_imul (M := M_X7_addSigned) dX7_addSigned_8 ?_
  refine x_top (M := M_X7_addSigned) (y := (Int32.ofInt 0)) (by decide +kernel) ?_
  refine x_istore (M := M_X7_addSigned) dX7_addSigned_9 (Nat.le_of_ble_eq_true rfl) rfl ?_
  refine x_aload_n (M := M_X7_addSigned) dX7_addSigned_11 rfl ?_
  refine x_getf (M := M_X7_addSigned) (ci := 10) (C := RX7) (T := TX7) (N := 5) (ty := tyX7) cl10 dX7_addSigned_12 o8406 4 (by decide) t_551 (v := .ref 273) rfl ?_
  refine x_iload_n (M := M_X7_addSigned) dX7_addSigned_15 rfl ?_
  refine x_iald (M := M_X7_addSigned) dX7_addSigned_16 o8407 (vp_inD (by decide +kernel)) ?_
  refine x_top (M := M_X7_addSigned) (y := (Int32.ofInt 0)) (by decide +kernel) ?_
  refine x_iload (M := M_X7_addSigned) dX7_addSigned_17 rfl ?_
  refine x_imul (M := M_X7_addSigned) dX7_addSigned_19 ?_
  refine x_if_lt (M := M_X7_addSigned) (tgt := 64) dX7_addSigned_20 (by decide) (fun q => absurd q (by decide +kernel)) (fun _ => ?_)
  refine x_aload_n (M := M_X7_addSigned) dX7_addSigned_23 rfl ?_
  refine x_getf (M := M_X7_addSigned) (ci := 10) (C := RX7) (T := TX7) (N := 5) (ty := tyX7) cl10 dX7_addSigned_24 o8406 4 (by decide) t_551 (v := .ref 273) rfl ?_
  refine x_iload_n (M := M_X7_addSigned) dX7_addSigned_27 rfl ?_
  refine x_iald (M := M_X7_addSigned) dX7_addSigned_28 o8407 (vp_inD (by decide +kernel)) ?_
  refine x_top (M := M_X7_addSigned) (y := (Int32.ofInt 0)) (by decide +kernel) ?_
  refine x_if_eq (M := M_X7_addSigned) (tgt := 41) dX7_addSigned_29 (by decide) (fun _ => ?_) (fun q => absurd q (by decide +kernel))
  refine x_iload (M := M_X7_addSigned) dX7_addSigned_41 rfl ?_
  refine x_istore (M := M_X7_addSigned) dX7_addSigned_43 (Nat.le_of_ble_eq_true rfl) rfl ?_
  refine x_aload_n (M := M_X7_addSigned) dX7_addSigned_45 rfl ?_
  refine x_iload_n (M := M_X7_addSigned) dX7_addSigned_46 rfl ?_
  refine x_iload_n (M := M_X7_addSigned) dX7_addSigned_47 rfl ?_
  refine x_iload_n (M := M_X7_addSigned) dX7_addSigned_48 rfl ?_
  refine x_iconst (M := M_X7_addSigned) dX7_addSigned_49 ?_
  refine y_callVR (M := M_X7_addSigned) (M' := M_X7_addLimbs) rfl rfl dX7_addSigned_50 m_X7_addLimbs t_2347 t_2349 s_152 (q8422 hl o8406 o8423 o8424 o8425) rfl rfl o8406 rfl (Nat.le_of_ble_eq_true rfl) (Nat.le_of_ble_eq_true rfl) (Nat.le_of_ble_eq_true rfl) (Nat.le_of_ble_eq_true rfl) (fun h8426 f8427 w8428 => ?_)
  obtain ⟨o8429, o8430, -⟩ := w8428
  refine x_aload_n (M := M_X7_addSigned) dX7_addSigned_53 rfl ?_
  have o8431 := (f8427 252 _ (by decide) o8406)
  refine x_getf (M := M_X7_addSigned) (ci := 10) (C := RX7) (T := TX7) (N := 5) (ty := tyX7) cl10 dX7_addSigned_54 o8431 4 (by decide) t_551 (v := .ref 273) rfl ?_
  refine x_iload_n (M := M_X7_addSigned) dX7_addSigned_57 rfl ?_
  refine x_iload (M := M_X7_addSigned) dX7_addSigned_58 rfl ?_
  have o8432 := (f8427 273 _ (by decide) o8407)
  refine y_iast (M := M_X7_addSigned) (k := 6) dX7_addSigned_60 o8432 (vp_inD (by decide +kernel)) (by decide +kernel) (fun h8433 w8434 f8435 => ?_)
  have w8436 : ob h8433 273 = some (.inl (0, 16, .inl (fun _ => 0))) := by rw [w8434, up_z (k := 6)]
  refine x_goto (M := M_X7_addSigned) (tgt := 112) dX7_addSigned_61 (by decide) ?_
  refine x_aload_n (M := M_X7_addSigned) dX7_addSigned_112 rfl ?_
  refine x_iload_n (M := M_X7_addSigned) dX7_addSigned_113 rfl ?_
  have o8454 := (f8435 252 _ (by decide) o8431)
  have o8455 := (f8435 272 _ (by decide) o8430)
  have o8456 := (f8435 255 _ (by decide) (f8427 255 _ (by decide) o8424))
  have o8457 := (f8435 262 _ (by decide) o8429)
  refine y_callVR (M := M_X7_addSigned) (M' := M_X7_trim) rfl rfl dX7_addSigned_114 m_X7_trim t_2339 t_2341 s_150 (q8453 hl o8454 o8455 o8456 o8457 w8436) rfl rfl o8454 rfl (Nat.le_of_ble_eq_true rfl) (Nat.le_of_ble_eq_true rfl) (Nat.le_of_ble_eq_true rfl) (Nat.le_of_ble_eq_true rfl) (fun h8458 f8459 w8460 => ?_)
  obtain ⟨o8461, o8462, -⟩ := w8460
  have o8463 := (f8459 262 _ (by decide) o8457)
  exact x_vret (M := M_X7_addSigned) dX7_addSigned_117 rfl ⟨rfl, (fr_tr f8459 (by decide) (fr_tr f8435 (by decide) (fr_tr f8427 (by decide) fr_rf))), ⟨o8463, o8461, o8462, trivial⟩⟩ (Nat.le_of_ble_eq_true rfl) (Nat.le_of_ble_eq_true rfl)
set_option maxRecDepth 10000 in
theorem q8477 {l : Launch} {E : EE} (hl : l.stackTraces = false) {h : HP} (o8385 : ob h 252 = some (.inr (10, [.ref 253, .ref 254, .ref 255, .ref 272, .ref 273]))) (o8386 : ob h 255 = some (.inl (5, 16, .inr (.inr (.inr (.inr (fun i => if i < 16 then some (255 + 1 + i) else none))))))) (o8387 : ob h 256 = some (.inl (0, 280, .inl (fun _ => 0)))) (o8388 : ob h 272 = some (.inl (0, 16, .inl (fun _ => 0)))) (o8389 : ob h 273 = some (.inl (0, 16, .inl (fun _ => 0)))) (o8398 : ob h 257 = some (.inl (0, 280, .inl (fun _ => 0)))) (o8467 : ob h 262 = some (.inl (0, 280, .inl (fun _ => 0)))) : en_C l E M_X7_difference 3 0 0 [.ref 252, .int (Int32.ofInt 6), .long (Int64.ofInt 0), .long (Int64.ofInt 0)] h (pF none [256, 272, 273, 257, 262] h (fun h' => ob h' 256 = some (.inl (0, 280, .inl (fun _ => 0))) ∧ ob h' 272 = some (.inl (0, 16, .inl (fun _ => 0))) ∧ ob h' 273 = some (.inl (0, 16, .inl (fun _ => 0))) ∧ ob h' 257 = some (.inl (0, 280, .inl (fun _ => 0))) ∧ ob h' 262 = some (.inl (0, 280, .inl (fun _ => 0))) ∧ True)) := by
  refine en_mk m_X7_difference rfl hl (Nat.le_of_ble_eq_true rfl) ?_
  refine x_aload_n (M := M_X7_difference) dX7_difference_0 rfl ?_
  refine x_iconst (M := M_X7_difference) dX7_difference_1 ?_
  refine x_lload_n (M := M_X7_difference) dX7_difference_2 rfl ?_
  refine y_callVR (M := M_X7_difference) (M' := M_X7_load) rfl rfl dX7_difference_3 m_X7_load t_2331 t_2333 s_149 (q6684 hl o8385 o8386 o8387 o8388 o8389) rfl rfl o8385 rfl (Nat.le_of_ble_eq_true rfl) (Nat.le_of_ble_eq_true rfl) (Nat.le_of_ble_eq_true rfl) (Nat.le_of_ble_eq_true rfl) (fun h8390 f8391 w8392 => ?_)
  obtain ⟨o8393, o8394, o8395, -⟩ := w8392
  refine x_aload_n (M := M_X7_difference) dX7_difference_6 rfl ?_
  refine x_iconst (M := M_X7_difference) dX7_difference_7 ?_
  refine x_lload (M := M_X7_difference) dX7_difference_8 rfl ?_
  have o8396 := (f8391 252 _ (by decide) o8385)
  have o8397 := (f8391 255 _ (by decide) o8386)
  have o8399 := (f8391 257 _ (by decide) o8398)
  refine y_callVR (M := M_X7_difference) (M' := M_X7_load) rfl rfl dX7_difference_10 m_X7_load t_2331 t_2333 s_149 (q6788 hl o8396 o8397 o8399 o8394 o8395) rfl rfl o8396 rfl (Nat.le_of_ble_eq_true rfl) (Nat.le_of_ble_eq_true rfl) (Nat.le_of_ble_eq_true rfl) (Nat.le_of_ble_eq_true rfl) (fun h8400 f8401 w8402 => ?_)
  obtain ⟨o8403, o8404, o8405, -⟩ := w8402
  refine x_aload_n (M := M_X7_difference) dX7_difference_13 rfl ?_
  refine x_iload_n (M := M_X7_difference) dX7_difference_14 rfl ?_
  refine x_iconst (M := M_X7_difference) dX7_difference_15 ?_
  refine x_iconst (M := M_X7_difference) dX7_difference_16 ?_
  refine x_iconst (M := M_X7_difference) dX7_difference_17 ?_
  have o8465 := (f8401 252 _ (by decide) o8396)
  have o8466 := (f8401 255 _ (by decide) o8397)
  have o8468 := (f8401 262 _ (by decide) (f8391 262 _ (by decide) o8467))
  refine y_callVR (M := M_X7_difference) (M' := M_X7_addSigned) rfl rfl dX7_difference_18 m_X7_addSigned t_2343 t_2345 s_151 (q8464 hl o8465 o8405 o8404 o8466 o8468) rfl rfl o8465 rfl (Nat.le_of_ble_eq_true rfl) (Nat.le_of_ble_eq_true rfl) (Nat.le_of_ble_eq_true rfl) (Nat.le_of_ble_eq_true rfl) (fun h8469 f8470 w8471 => ?_)
  obtain ⟨o8472, o8473, o8474, -⟩ := w8471
  have o8475 := (f8470 256 _ (by decide) (f8401 256 _ (by decide) o8393))
  have o8476 := (f8470 257 _ (by decide) o8403)
  exact x_vret (M := M_X7_difference) dX7_difference_21 rfl ⟨rfl, (fr_tr f8470 (by decide) (fr_tr f8401 (by decide) (fr_tr f8391 (by decide) fr_rf))), ⟨o8475, o8473, o8474, o8476, o8472, trivial⟩⟩ (Nat.le_of_ble_eq_true rfl) (Nat.le_of_ble_eq_true rfl)
set_option maxRecDepth 10000 in
theorem q8528 {l : Launch} {E : EE} (hl : l.stackTraces = false) {h : HP} (o8514 : ob h 252 = some (.inr (10, [.ref 253, .ref 254, .ref 255, .ref 272, .ref 273]))) (o8515 : ob h 272 = some (.inl (0, 16, .inl (fun _ => 0)))) (o8516 : ob h 255 = some (.inl (5, 16, .inr (.inr (.inr (.inr (fun i => if i < 16 then some (255 + 1 + i) else none))))))) (o8517 : ob h 263 = some (.inl (0, 280, .inl (fun _ => 0)))) : en_C l E M_X7_addLimbs 1 0 0 [.ref 252, .int (Int32.ofInt 7), .int (Int32.ofInt 0), .int (Int32.ofInt 1), .int (Int32.ofInt 1)] h (pF none [263, 272] h (fun h' => ob h' 263 = some (.inl (0, 280, .inl (fun _ => 0))) ∧ ob h' 272 = some (.inl (0, 16, .inl (upd (fun _ => 0) 7 (Int32.ofInt 1)))) ∧ True)) := by
  refine en_mk m_X7_addLimbs rfl hl (Nat.le_of_ble_eq_true rfl) ?_
  refine x_aload_n (M := M_X7_addLimbs) dX7_addLimbs_0 rfl ?_
  refine x_getf (M := M_X7_addLimbs) (ci := 10) (C := RX7) (T := TX7) (N := 5) (ty := tyX7) cl10 dX7_addLimbs_1 o8514 3 (by decide) t_550 (v := .ref 272) rfl ?_
  refine x_iload_n (M := M_X7_addLimbs) dX7_addLimbs_4 rfl ?_
  refine x_iald (M := M_X7_addLimbs) dX7_addLimbs_5 o8515 (vp_inD (by decide +kernel)) ?_
  refine x_top (M := M_X7_addLimbs) (y := (Int32.ofInt 0)) (by decide +kernel) ?_
  refine x_aload_n (M := M_X7_addLimbs) dX7_addLimbs_6 rfl ?_
  refine x_getf (M := M_X7_addLimbs) (ci := 10) (C := RX7) (T := TX7) (N := 5) (ty := tyX7) cl10 dX7_addLimbs_7 o8514 3 (by decide) t_550 (v := .ref 272) rfl ?_
  refine x_iload_n (M := M_X7_addLimbs) dX7_addLimbs_10 rfl ?_
  refine x_iald (M := M_X7_addLimbs) dX7_addLimbs_11 o8515 (vp_inD (by decide +kernel)) ?_
  refine x_top (M := M_X7_addLimbs) (y := (Int32.ofInt 0)) (by decide +kernel) ?_
  refine x_mmax (M := M_X7_addLimbs) dX7_addLimbs_12 t_2336 t_1013 t_20 t_1014 (Nat.le_of_ble_eq_true rfl) (Nat.le_of_ble_eq_true rfl) (Nat.le_of_ble_eq_true rfl) (Nat.le_of_ble_eq_true rfl) ?_
  refine x_top (M := M_X7_addLimbs) (y := (Int32.ofInt 0)) (by decide +kernel) ?_
  refine x_iconst (M := M_X7_addLimbs) dX7_addLimbs_15 ?_
  refine x_iadd (M := M_X7_addLimbs) dX7_addLimbs_16 ?_
  refine x_sipush (M := M_X7_addLimbs) dX7_addLimbs_17 ?_
  refine x_mmin (M := M_X7_addLimbs) dX7_addLimbs_20 t_2351 t_626 t_20 t_627 (Nat.le_of_ble_eq_true rfl) (Nat.le_of_ble_eq_true rfl) (Nat.le_of_ble_eq_true rfl) (Nat.le_of_ble_eq_true rfl) ?_
  refine x_top (M := M_X7_addLimbs) (y := (Int32.ofInt 1)) (by decide +kernel) ?_
  refine x_istore (M := M_X7_addLimbs) dX7_addLimbs_23 (Nat.le_of_ble_eq_true rfl) rfl ?_
  refine x_lconst (M := M_X7_addLimbs) dX7_addLimbs_25 ?_
  refine x_topl (M := M_X7_addLimbs) (y := (Int64.ofInt 0)) (by decide +kernel) ?_
  refine x_lstore (M := M_X7_addLimbs) dX7_addLimbs_26 (Nat.le_of_ble_eq_true rfl) rfl ?_
  refine x_iconst (M := M_X7_addLimbs) dX7_addLimbs_28 ?_
  refine x_istore (M := M_X7_addLimbs) dX7_addLimbs_29 (Nat.le_of_ble_eq_true rfl) rfl ?_
  refine x_iload (M := M_X7_addLimbs) dX7_addLimbs_31 rfl ?_
  refine x_iload (M := M_X7_addLimbs) dX7_addLimbs_33 rfl ?_
  refine x_icmp_ge (M := M_X7_addLimbs) (tgt := 87) dX7_addLimbs_35 (by decide) (fun q => absurd q (by decide +kernel)) (fun _ => ?_)
  refine x_aload_n (M := M_X7_addLimbs) dX7_addLimbs_38 rfl ?_
  refine x_iload_n (M := M_X7_addLimbs) dX7_addLimbs_39 rfl ?_
  refine x_iload (M := M_X7_addLimbs) dX7_addLimbs_40 rfl ?_
  refine x_callVR (M := M_X7_addLimbs) (M' := M_X7_limbAt) rfl rfl dX7_addLimbs_42 m_X7_limbAt t_2352 t_2354 s_153 (q6805 hl o8514 o8515) rfl rfl o8514 rfl (Nat.le_of_ble_eq_true rfl) (Nat.le_of_ble_eq_true rfl) (Nat.le_of_ble_eq_true rfl) (Nat.le_of_ble_eq_true rfl) ?_
  refine x_iload (M := M_X7_addLimbs) dX7_addLimbs_45 rfl ?_
  refine x_i2l (M := M_X7_addLimbs) dX7_addLimbs_47 ?_
  refine x_aload_n (M := M_X7_addLimbs) dX7_addLimbs_48 rfl ?_
  refine x_iload_n (M := M_X7_addLimbs) dX7_addLimbs_49 rfl ?_
  refine x_iload (M := M_X7_addLimbs) dX7_addLimbs_50 rfl ?_
  refine x_callVR (M := M_X7_addLimbs) (M' := M_X7_limbAt) rfl rfl dX7_addLimbs_52 m_X7_limbAt t_2352 t_2354 s_153 (q6808 hl o8514 o8515) rfl rfl o8514 rfl (Nat.le_of_ble_eq_true rfl) (Nat.le_of_ble_eq_true rfl) (Nat.le_of_ble_eq_true rfl) (Nat.le_of_ble_eq_true rfl) ?_
  refine x_lmul (M := M_X7_addLimbs) dX7_addLimbs_55 ?_
  refine x_ladd (M := M_X7_addLimbs) dX7_addLimbs_56 ?_
  refine x_lload (M := M_X7_addLimbs) dX7_addLimbs_57 rfl ?_
  refine x_ladd (M := M_X7_addLimbs) dX7_addLimbs_59 ?_
  refine x_topl (M := M_X7_addLimbs) (y := (Int64.ofInt 0)) (by decide +kernel) ?_
  refine x_lstore (M := M_X7_addLimbs) dX7_addLimbs_60 (Nat.le_of_ble_eq_true rfl) rfl ?_
  refine x_aload_n (M := M_X7_addLimbs) dX7_addLimbs_62 rfl ?_
  refine x_getf (M := M_X7_addLimbs) (ci := 10) (C := RX7) (T := TX7) (N := 5) (ty := tyX7) cl10 dX7_addLimbs_63 o8514 2 (by decide) t_549 (v := .ref 255) rfl ?_
  refine x_iload_n (M := M_X7_addLimbs) dX7_addLimbs_66 rfl ?_
  refine x_gald (M := M_X7_addLimbs) (b := 263) dX7_addLimbs_67 o8516 (vp_inD (by decide +kernel)) (by decide +kernel) ?_
  refine x_iload (M := M_X7_addLimbs) dX7_addLimbs_68 rfl ?_
  refine x_lload (M := M_X7_addLimbs) dX7_addLimbs_70 rfl ?_
  refine x_l2i (M := M_X7_addLimbs) dX7_addLimbs_72 ?_
  refine x_norm (M := M_X7_addLimbs) (st' := [.int (Int32.ofInt 0), .int (Int32.ofInt 0), .ref 263]) rfl (vi_cons (by decide +kernel : ((Int64.ofInt 0).toInt32) = (Int32.ofInt 0)) rfl) rfl rfl rfl ?_
  refine y_iast (M := M_X7_addLimbs) (k := 0) dX7_addLimbs_73 o8517 (vp_inD (by decide +kernel)) (by decide +kernel) (fun h8518 w8519 f8520 => ?_)
  have w8521 : ob h8518 263 = some (.inl (0, 280, .inl (fun _ => 0))) := by rw [w8519, up_z (k := 0)]
  refine x_lload (M := M_X7_addLimbs) dX7_addLimbs_74 rfl ?_
  refine x_bipush (M := M_X7_addLimbs) dX7_addLimbs_76 ?_
  refine x_lshr (M := M_X7_addLimbs) dX7_addLimbs_78 ?_
  refine x_topl (M := M_X7_addLimbs) (y := (Int64.ofInt 0)) (by decide +kernel) ?_
  refine x_lstore (M := M_X7_addLimbs) dX7_addLimbs_79 (Nat.le_of_ble_eq_true rfl) rfl ?_
  refine x_lvs (M := M_X7_addLimbs) (lv' := [some (.ref 252), some (.int (Int32.ofInt 7)), some (.int (Int32.ofInt 0)), some (.int (Int32.ofInt 1)), some (.int (Int32.ofInt 1)), some (.int (Int32.ofInt 1)), some (.long (Int64.ofInt 0)), none, some (.int (Int32.ofInt 0)), some (.long (Int64.ofInt 0)), none]) rfl ?_
  refine x_iinc (M := M_X7_addLimbs) dX7_addLimbs_81 rfl (Nat.le_of_ble_eq_true rfl) rfl ?_
  refine x_lvs (M := M_X7_addLimbs) (lv' := [some (.ref 252), some (.int (Int32.ofInt 7)), some (.int (Int32.ofInt 0)), some (.int (Int32.ofInt 1)), some (.int (Int32.ofInt 1)), some (.int (Int32.ofInt 1)), some (.long (Int64.ofInt 0)), none, some (.int (Int32.ofInt 1)), some (.long (Int64.ofInt 0)), none]) (by rw [(by decide +kernel : (Int32.ofInt 0) + Int32.ofInt 1 = (Int32.ofInt 1))] <;> rfl) ?_
  refine x_goto (M := M_X7_addLimbs) (tgt := 31) dX7_addLimbs_84 (by decide) ?_
  refine x_iload (M := M_X7_addLimbs) dX7_addLimbs_31 rfl ?_
  refine x_iload (M := M_X7_addLimbs) dX7_addLimbs_33 rfl ?_
  refine x_icmp_ge (M := M_X7_addLimbs) (tgt := 87) dX7_addLimbs_35 (by decide) (fun _ => ?_) (fun q => absurd q (by decide +kernel))
  refine x_aload_n (M := M_X7_addLimbs) dX7_addLimbs_87 rfl ?_
  have o8522 := (f8520 252 _ (by decide) o8514)
  refine x_getf (M := M_X7_addLimbs) (ci := 10) (C := RX7) (T := TX7) (N := 5) (ty := tyX7) cl10 dX7_addLimbs_88 o8522 3 (by decide) t_550 (v := .ref 272) rfl ?_
  refine x_iload_n (M := M_X7_addLimbs) dX7_addLimbs_91 rfl ?_
  refine x_iload (M := M_X7_addLimbs) dX7_addLimbs_92 rfl ?_
  have o8523 := (f8520 272 _ (by decide) o8515)
  refine y_iast (M := M_X7_addLimbs) (k := 7) dX7_addLimbs_94 o8523 (vp_inD (by decide +kernel)) (by decide +kernel) (fun h8524 w8525 f8526 => ?_)
  have o8527 := (f8526 263 _ (by decide) w8521)
  exact x_vret (M := M_X7_addLimbs) dX7_addLimbs_95 rfl ⟨rfl, (fr_tr f8526 (by decide) (fr_tr f8520 (by decide) fr_rf)), ⟨o8527, w8525, trivial⟩⟩ (Nat.le_of_ble_eq_true rfl) (Nat.le_of_ble_eq_true rfl)
set_option maxRecDepth 10000 in
theorem q8559 {l : Launch} {E : EE} (hl : l.stackTraces = false) {h : HP} (o8543 : ob h 252 = some (.inr (10, [.ref 253, .ref 254, .ref 255, .ref 272, .ref 273]))) (o8544 : ob h 272 = some (.inl (0, 16, .inl (upd (fun _ => 0) 7 (Int32.ofInt 1))))) (o8545 : ob h 255 = some (.inl (5, 16, .inr (.inr (.inr (.inr (fun i => if i < 16 then some (255 + 1 + i) else none))))))) (o8546 : ob h 263 = some (.inl (0, 280, .inl (fun _ => 0)))) (o8552 : ob h 273 = some (.inl (0, 16, .inl (fun _ => 0)))) : en_C l E M_X7_trim 0 0 0 [.ref 252, .int (Int32.ofInt 7)] h (pF none [272, 273] h (fun h' => ob h' 272 = some (.inl (0, 16, .inl (fun _ => 0))) ∧ ob h' 273 = some (.inl (0, 16, .inl (fun _ => 0))) ∧ True)) := by
  refine en_mk m_X7_trim rfl hl (Nat.le_of_ble_eq_true rfl) ?_
  refine x_aload_n (M := M_X7_trim) dX7_trim_0 rfl ?_
  refine x_getf (M := M_X7_trim) (ci := 10) (C := RX7) (T := TX7) (N := 5) (ty := tyX7) cl10 dX7_trim_1 o8543 3 (by decide) t_550 (v := .ref 272) rfl ?_
  refine x_iload_n (M := M_X7_trim) dX7_trim_4 rfl ?_
  refine x_iald (M := M_X7_trim) dX7_trim_5 o8544 (vp_inD (by decide +kernel)) ?_
  refine x_top (M := M_X7_trim) (y := (Int32.ofInt 1)) (by decide +kernel) ?_
  refine x_if_le (M := M_X7_trim) (tgt := 40) dX7_trim_6 (by decide) (fun q => absurd q (by decide +kernel)) (fun _ => ?_)
  refine x_aload_n (M := M_X7_trim) dX7_trim_9 rfl ?_
  refine x_getf (M := M_X7_trim) (ci := 10) (C := RX7) (T := TX7) (N := 5) (ty := tyX7) cl10 dX7_trim_10 o8543 2 (by decide) t_549 (v := .ref 255) rfl ?_
  refine x_iload_n (M := M_X7_trim) dX7_trim_13 rfl ?_
  refine x_gald (M := M_X7_trim) (b := 263) dX7_trim_14 o8545 (vp_inD (by decide +kernel)) (by decide +kernel) ?_
  refine x_aload_n (M := M_X7_trim) dX7_trim_15 rfl ?_
  refine x_getf (M := M_X7_trim) (ci := 10) (C := RX7) (T := TX7) (N := 5) (ty := tyX7) cl10 dX7_trim_16 o8543 3 (by decide) t_550 (v := .ref 272) rfl ?_
  refine x_iload_n (M := M_X7_trim) dX7_trim_19 rfl ?_
  refine x_iald (M := M_X7_trim) dX7_trim_20 o8544 (vp_inD (by decide +kernel)) ?_
  refine x_top (M := M_X7_trim) (y := (Int32.ofInt 1)) (by decide +kernel) ?_
  refine x_iconst (M := M_X7_trim) dX7_trim_21 ?_
  refine x_isub (M := M_X7_trim) dX7_trim_22 ?_
  refine x_iald (M := M_X7_trim) dX7_trim_23 o8546 (vp_inD (by decide +kernel)) ?_
  refine x_top (M := M_X7_trim) (y := (Int32.ofInt 0)) (by decide +kernel) ?_
  refine x_if_ne (M := M_X7_trim) (tgt := 40) dX7_trim_24 (by decide) (fun q => absurd q (by decide +kernel)) (fun _ => ?_)
  refine x_aload_n (M := M_X7_trim) dX7_trim_27 rfl ?_
  refine x_getf (M := M_X7_trim) (ci := 10) (C := RX7) (T := TX7) (N := 5) (ty := tyX7) cl10 dX7_trim_28 o8543 3 (by decide) t_550 (v := .ref 272) rfl ?_
  refine x_iload_n (M := M_X7_trim) dX7_trim_31 rfl ?_
  refine x_dup2 (M := M_X7_trim) dX7_trim_32 rfl rfl ?_
  refine x_iald (M := M_X7_trim) dX7_trim_33 o8544 (vp_inD (by decide +kernel)) ?_
  refine x_top (M := M_X7_trim) (y := (Int32.ofInt 1)) (by decide +kernel) ?_
  refine x_iconst (M := M_X7_trim) dX7_trim_34 ?_
  refine x_isub (M := M_X7_trim) dX7_trim_35 ?_
  refine x_norm (M := M_X7_trim) (st' := [.int (Int32.ofInt 0), .int (Int32.ofInt 7), .ref 272]) rfl (vi_cons (by decide +kernel : ((Int32.ofInt 1) - (Int32.ofInt 1)) = (Int32.ofInt 0)) rfl) rfl rfl rfl ?_
  refine y_iast (M := M_X7_trim) (k := 7) dX7_trim_36 o8544 (vp_inD (by decide +kernel)) (by decide +kernel) (fun h8547 w8548 f8549 => ?_)
  have w8550 : ob h8547 272 = some (.inl (0, 16, .inl (fun _ => 0))) := by rw [w8548, up_up (k := 7), up_z (k := 7)]
  refine x_goto (M := M_X7_trim) (tgt := 0) dX7_trim_37 (by decide) ?_
  refine x_aload_n (M := M_X7_trim) dX7_trim_0 rfl ?_
  have o8551 := (f8549 252 _ (by decide) o8543)
  refine x_getf (M := M_X7_trim) (ci := 10) (C := RX7) (T := TX7) (N := 5) (ty := tyX7) cl10 dX7_trim_1 o8551 3 (by decide) t_550 (v := .ref 272) rfl ?_
  refine x_iload_n (M := M_X7_trim) dX7_trim_4 rfl ?_
  refine x_iald (M := M_X7_trim) dX7_trim_5 w8550 (vp_inD (by decide +kernel)) ?_
  refine x_top (M := M_X7_trim) (y := (Int32.ofInt 0)) (by decide +kernel) ?_
  refine x_if_le (M := M_X7_trim) (tgt := 40) dX7_trim_6 (by decide) (fun _ => ?_) (fun q => absurd q (by decide +kernel))
  refine x_aload_n (M := M_X7_trim) dX7_trim_40 rfl ?_
  refine x_getf (M := M_X7_trim) (ci := 10) (C := RX7) (T := TX7) (N := 5) (ty := tyX7) cl10 dX7_trim_41 o8551 3 (by decide) t_550 (v := .ref 272) rfl ?_
  refine x_iload_n (M := M_X7_trim) dX7_trim_44 rfl ?_
  refine x_iald (M := M_X7_trim) dX7_trim_45 w8550 (vp_inD (by decide +kernel)) ?_
  refine x_top (M := M_X7_trim) (y := (Int32.ofInt 0)) (by decide +kernel) ?_
  refine x_if_ne (M := M_X7_trim) (tgt := 56) dX7_trim_46 (by decide) (fun q => absurd q (by decide +kernel)) (fun _ => ?_)
  refine x_aload_n (M := M_X7_trim) dX7_trim_49 rfl ?_
  refine x_getf (M := M_X7_trim) (ci := 10) (C := RX7) (T := TX7) (N := 5) (ty := tyX7) cl10 dX7_trim_50 o8551 4 (by decide) t_551 (v := .ref 273) rfl ?_
  refine x_iload_n (M := M_X7_trim) dX7_trim_53 rfl ?_
  refine x_iconst (M := M_X7_trim) dX7_trim_54 ?_
  have o8553 := (f8549 273 _ (by decide) o8552)
  refine y_iast (M := M_X7_trim) (k := 7) dX7_trim_55 o8553 (vp_inD (by decide +kernel)) (by decide +kernel) (fun h8554 w8555 f8556 => ?_)
  have w8557 : ob h8554 273 = some (.inl (0, 16, .inl (fun _ => 0))) := by rw [w8555, up_z (k := 7)]
  have o8558 := (f8556 272 _ (by decide) w8550)
  exact x_vret (M := M_X7_trim) dX7_trim_56 rfl ⟨rfl, (fr_tr f8556 (by decide) (fr_tr f8549 (by decide) fr_rf)), ⟨o8558, w8557, trivial⟩⟩ (Nat.le_of_ble_eq_true rfl) (Nat.le_of_ble_eq_true rfl)
set_option maxRecDepth 10000 in
theorem q8570 {l : Launch} {E : EE} (hl : l.stackTraces = false) {h : HP} (o8512 : ob h 252 = some (.inr (10, [.ref 253, .ref 254, .ref 255, .ref 272, .ref 273]))) (o8513 : ob h 273 = some (.inl (0, 16, .inl (fun _ => 0)))) (o8529 : ob h 272 = some (.inl (0, 16, .inl (fun _ => 0)))) (o8530 : ob h 255 = some (.inl (5, 16, .inr (.inr (.inr (.inr (fun i => if i < 16 then some (255 + 1 + i) else none))))))) (o8531 : ob h 263 = some (.inl (0, 280, .inl (fun _ => 0)))) : en_C l E M_X7_addSigned 2 0 0 [.ref 252, .int (Int32.ofInt 7), .int (Int32.ofInt 0), .int (Int32.ofInt 1), .int (Int32.ofInt (-1))] h (pF none [263, 272, 273] h (fun h' => ob h' 263 = some (.inl (0, 280, .inl (fun _ => 0))) ∧ ob h' 272 = some (.inl (0, 16, .inl (fun _ => 0))) ∧ ob h' 273 = some (.inl (0, 16, .inl (fun _ => 0))) ∧ True)) := by
  refine en_mk m_X7_addSigned rfl hl (Nat.le_of_ble_eq_true rfl) ?_
  refine x_aload_n (M := M_X7_addSigned) dX7_addSigned_0 rfl ?_
  refine x_getf (M := M_X7_addSigned) (ci := 10) (C := RX7) (T := TX7) (N := 5) (ty := tyX7) cl10 dX7_addSigned_1 o8512 4 (by decide) t_551 (v := .ref 273) rfl ?_
  refine x_iload_n (M := M_X7_addSigned) dX7_addSigned_4 rfl ?_
  refine x_iald (M := M_X7_addSigned) dX7_addSigned_5 o8513 (vp_inD (by decide +kernel)) ?_
  refine x_top (M := M_X7_addSigned) (y := (Int32.ofInt 0)) (by decide +kernel) ?_
  refine x_iload (M := M_X7_addSigned) dX7_addSigned_6 rfl ?_
  refine x_imul (M := M_X7_addSigned) dX7_addSigned_8 ?_
  refine x_top (M := M_X7_addSigned) (y := (Int32.ofInt 0)) (by decide +kernel) ?_
  refine x_istore (M := M_X7_addSigned) dX7_addSigned_9 (Nat.le_of_ble_eq_true rfl) rfl ?_
  refine x_aload_n (M := M_X7_addSigned) dX7_addSigned_11 rfl ?_
  refine x_getf (M := M_X7_addSigned) (ci := 10) (C := RX7) (T := TX7) (N := 5) (ty := tyX7) cl10 dX7_addSigned_12 o8512 4 (by decide) t_551 (v := .ref 273) rfl ?_
  refine x_iload_n (M := M_X7_addSigned) dX7_addSigned_15 rfl ?_
  refine x_iald (M := M_X7_addSigned) dX7_addSigned_16 o8513 (vp_inD (by decide +kernel)) ?_
  refine x_top (M := M_X7_addSigned) (y := (Int32.ofInt 0)) (by decide +kernel) ?_
  refine x_iload (M := M_X7_addSigned) dX7_addSigned_17 rfl ?_
  refine x_imul (M := M_X7_addSigned) dX7_addSigned_19 ?_
  refine x_if_lt (M := M_X7_addSigned) (tgt := 64) dX7_addSigned_20 (by decide) (fun q => absurd q (by decide +kernel)) (fun _ => ?_)
  refine x_aload_n (M := M_X7_addSigned) dX7_addSigned_23 rfl ?_
  refine x_getf (M := M_X7_addSigned) (ci := 10) (C := RX7) (T := TX7) (N := 5) (ty := tyX7) cl10 dX7_addSigned_24 o8512 4 (by decide) t_551 (v := .ref 273) rfl ?_
  refine x_iload_n (M := M_X7_addSigned) dX7_addSigned_27 rfl ?_
  refine x_iald (M := M_X7_addSigned) dX7_addSigned_28 o8513 (vp_inD (by decide +kernel)) ?_
  refine x_top (M := M_X7_addSigned) (y := (Int32.ofInt 0)) (by decide +kernel) ?_
  refine x_if_eq (M := M_X7_addSigned) (tgt := 41) dX7_addSigned_29 (by decide) (fun _ => ?_) (fun q => absurd q (by decide +kernel))
  refine x_iload (M := M_X7_addSigned) dX7_addSigned_41 rfl ?_
  refine x_istore (M := M_X7_addSigned) dX7_addSigned_43 (Nat.le_of_ble_eq_true rfl) rfl ?_
  refine x_aload_n (M := M_X7_addSigned) dX7_addSigned_45 rfl ?_
  refine x_iload_n (M := M_X7_addSigned) dX7_addSigned_46 rfl ?_
  refine x_iload_n (M := M_X7_addSigned) dX7_addSigned_47 rfl ?_
  refine x_iload_n (M := M_X7_addSigned) dX7_addSigned_48 rfl ?_
  refine x_iconst (M := M_X7_addSigned) dX7_addSigned_49 ?_
  refine y_callVR (M := M_X7_addSigned) (M' := M_X7_addLimbs) rfl rfl dX7_addSigned_50 m_X7_addLimbs t_2347 t_2349 s_152 (q8528 hl o8512 o8529 o8530 o8531) rfl rfl o8512 rfl (Nat.le_of_ble_eq_true rfl) (Nat.le_of_ble_eq_true rfl) (Nat.le_of_ble_eq_true rfl) (Nat.le_of_ble_eq_true rfl) (fun h8532 f8533 w8534 => ?_)
  obtain ⟨o8535, o8536, -⟩ := w8534
  refine x_aload_n (M := M_X7_addSigned) dX7_addSigned_53 rfl ?_
  have o8537 := (f8533 252 _ (by decide) o8512)
  refine x_getf (M := M_X7_addSigned) (ci := 10) (C := RX7) (T := TX7) (N := 5) (ty := tyX7) cl10 dX7_addSigned_54 o8537 4 (by decide) t_551 (v := .ref 273) rfl ?_
  refine x_iload_n (M := M_X7_addSigned) dX7_addSigned_57 rfl ?_
  refine x_iload (M := M_X7_addSigned) dX7_addSigned_58 rfl ?_
  have o8538 := (f8533 273 _ (by decide) o8513)
  refine y_iast (M := M_X7_addSigned) (k := 7) dX7_addSigned_60 o8538 (vp_inD (by decide +kernel)) (by decide +kernel) (fun h8539 w8540 f8541 => ?_)
  have w8542 : ob h8539 273 = some (.inl (0, 16, .inl (fun _ => 0))) := by rw [w8540, up_z (k := 7)]
  refine x_goto (M := M_X7_addSigned) (tgt := 112) dX7_addSigned_61 (by decide) ?_
  refine x_aload_n (M := M_X7_addSigned) dX7_addSigned_112 rfl ?_
  refine x_iload_n (M := M_X7_addSigned) dX7_addSigned_113 rfl ?_
  have o8560 := (f8541 252 _ (by decide) o8537)
  have o8561 := (f8541 272 _ (by decide) o8536)
  have o8562 := (f8541 255 _ (by decide) (f8533 255 _ (by decide) o8530))
  have o8563 := (f8541 263 _ (by decide) o8535)
  refine y_callVR (M := M_X7_addSigned) (M' := M_X7_trim) rfl rfl dX7_addSigned_114 m_X7_trim t_2339 t_2341 s_150 (q8559 hl o8560 o8561 o8562 o8563 w8542) rfl rfl o8560 rfl (Nat.le_of_ble_eq_true rfl) (Nat.le_of_ble_eq_true rfl) (Nat.le_of_ble_eq_true rfl) (Nat.le_of_ble_eq_true rfl) (fun h8564 f8565 w8566 => ?_)
  obtain ⟨o8567, o8568, -⟩ := w8566
  have o8569 := (f8565 263 _ (by decide) o8563)
  exact x_vret (M := M_X7_addSigned) dX7_addSigned_117 rfl ⟨rfl, (fr_tr f8565 (by decide) (fr_tr f8541 (by decide) (fr_tr f8533 (by decide) fr_rf))), ⟨o8569, o8567, o8568, trivial⟩⟩ (Nat.le_of_ble_eq_true rfl) (Nat.le_of_ble_eq_true rfl)
set_option maxRecDepth 10000 in
theorem q8583 {l : Launch} {E : EE} (hl : l.stackTraces = false) {h : HP} (o8491 : ob h 252 = some (.inr (10, [.ref 253, .ref 254, .ref 255, .ref 272, .ref 273]))) (o8492 : ob h 255 = some (.inl (5, 16, .inr (.inr (.inr (.inr (fun i => if i < 16 then some (255 + 1 + i) else none))))))) (o8493 : ob h 256 = some (.inl (0, 280, .inl (fun _ => 0)))) (o8494 : ob h 272 = some (.inl (0, 16, .inl (fun _ => 0)))) (o8495 : ob h 273 = some (.inl (0, 16, .inl (fun _ => 0)))) (o8504 : ob h 257 = some (.inl (0, 280, .inl (fun _ => 0)))) (o8573 : ob h 263 = some (.inl (0, 280, .inl (fun _ => 0)))) : en_C l E M_X7_difference 3 0 0 [.ref 252, .int (Int32.ofInt 7), .long (Int64.ofInt 0), .long (Int64.ofInt 0)] h (pF none [256, 272, 273, 257, 263] h (fun h' => ob h' 256 = some (.inl (0, 280, .inl (fun _ => 0))) ∧ ob h' 272 = some (.inl (0, 16, .inl (fun _ => 0))) ∧ ob h' 273 = some (.inl (0, 16, .inl (fun _ => 0))) ∧ ob h' 257 = some (.inl (0, 280, .inl (fun _ => 0))) ∧ ob h' 263 = some (.inl (0, 280, .inl (fun _ => 0))) ∧ True)) := by
  refine en_mk m_X7_difference rfl hl (Nat.le_of_ble_eq_true rfl) ?_
  refine x_aload_n (M := M_X7_difference) dX7_difference_0 rfl ?_
  refine x_iconst (M := M_X7_difference) dX7_difference_1 ?_
  refine x_lload_n (M := M_X7_difference) dX7_difference_2 rfl ?_
  refine y_callVR (M := M_X7_difference) (M' := M_X7_load) rfl rfl dX7_difference_3 m_X7_load t_2331 t_2333 s_149 (q6684 hl o8491 o8492 o8493 o8494 o8495) rfl rfl o8491 rfl (Nat.le_of_ble_eq_true rfl) (Nat.le_of_ble_eq_true rfl) (Nat.le_of_ble_eq_true rfl) (Nat.le_of_ble_eq_true rfl) (fun h8496 f8497 w8498 => ?_)
  obtain ⟨o8499, o8500, o8501, -⟩ := w8498
  refine x_aload_n (M := M_X7_difference) dX7_difference_6 rfl ?_
  refine x_iconst (M := M_X7_difference) dX7_difference_7 ?_
  refine x_lload (M := M_X7_difference) dX7_difference_8 rfl ?_
  have o8502 := (f8497 252 _ (by decide) o8491)
  have o8503 := (f8497 255 _ (by decide) o8492)
  have o8505 := (f8497 257 _ (by decide) o8504)
  refine y_callVR (M := M_X7_difference) (M' := M_X7_load) rfl rfl dX7_difference_10 m_X7_load t_2331 t_2333 s_149 (q6788 hl o8502 o8503 o8505 o8500 o8501) rfl rfl o8502 rfl (Nat.le_of_ble_eq_true rfl) (Nat.le_of_ble_eq_true rfl) (Nat.le_of_ble_eq_true rfl) (Nat.le_of_ble_eq_true rfl) (fun h8506 f8507 w8508 => ?_)
  obtain ⟨o8509, o8510, o8511, -⟩ := w8508
  refine x_aload_n (M := M_X7_difference) dX7_difference_13 rfl ?_
  refine x_iload_n (M := M_X7_difference) dX7_difference_14 rfl ?_
  refine x_iconst (M := M_X7_difference) dX7_difference_15 ?_
  refine x_iconst (M := M_X7_difference) dX7_difference_16 ?_
  refine x_iconst (M := M_X7_difference) dX7_difference_17 ?_
  have o8571 := (f8507 252 _ (by decide) o8502)
  have o8572 := (f8507 255 _ (by decide) o8503)
  have o8574 := (f8507 263 _ (by decide) (f8497 263 _ (by decide) o8573))
  refine y_callVR (M := M_X7_difference) (M' := M_X7_addSigned) rfl rfl dX7_difference_18 m_X7_addSigned t_2343 t_2345 s_151 (q8570 hl o8571 o8511 o8510 o8572 o8574) rfl rfl o8571 rfl (Nat.le_of_ble_eq_true rfl) (Nat.le_of_ble_eq_true rfl) (Nat.le_of_ble_eq_true rfl) (Nat.le_of_ble_eq_true rfl) (fun h8575 f8576 w8577 => ?_)
  obtain ⟨o8578, o8579, o8580, -⟩ := w8577
  have o8581 := (f8576 256 _ (by decide) (f8507 256 _ (by decide) o8499))
  have o8582 := (f8576 257 _ (by decide) o8509)
  exact x_vret (M := M_X7_difference) dX7_difference_21 rfl ⟨rfl, (fr_tr f8576 (by decide) (fr_tr f8507 (by decide) (fr_tr f8497 (by decide) fr_rf))), ⟨o8581, o8579, o8580, o8582, o8578, trivial⟩⟩ (Nat.le_of_ble_eq_true rfl) (Nat.le_of_ble_eq_true rfl)
set_option maxRecDepth 10000 in
theorem q8599 {l : Launch} {E : EE} (hl : l.stackTraces = false) {h : HP} (o8598 : ob h 269 = some (.inl (0, 280, .inl (fun _ => 0)))) : en_C l E M_J7_fill_fda19 1 0 0 [.ref 269, .int (Int32.ofInt 0), .int (Int32.ofInt 0), .int (Int32.ofInt 0)] h (pR none h) := by
  refine en_mk m_J7_fill_fda19 rfl hl (Nat.le_of_ble_eq_true rfl) ?_
  refine x_aload_n (M := M_J7_fill_fda19) dJ7_fill_fda19_0 rfl ?_
  refine x_alen (M := M_J7_fill_fda19) dJ7_fill_fda19_1 o8598 (by decide) ?_
  refine x_iload_n (M := M_J7_fill_fda19) dJ7_fill_fda19_2 rfl ?_
  refine x_iload_n (M := M_J7_fill_fda19) dJ7_fill_fda19_3 rfl ?_
  refine x_norm (M := M_J7_fill_fda19) (st' := [.int (Int32.ofInt 0), .int (Int32.ofInt 0), .int (Int32.ofInt 280)]) rfl (v_cons (v_cons (vi_cons (by decide +kernel : (Int32.ofNat 280) = (Int32.ofInt 280)) rfl))) rfl rfl rfl ?_
  refine x_callSR (M := M_J7_fill_fda19) (M' := M_J7_rangeCheck_23922) rfl rfl dJ7_fill_fda19_4 m_J7_rangeCheck_23922 t_1524 t_1525 (q7214 hl) rfl rfl (Nat.le_of_ble_eq_true rfl) (Nat.le_of_ble_eq_true rfl) (Nat.le_of_ble_eq_true rfl) (Nat.le_of_ble_eq_true rfl) ?_
  refine x_iload_n (M := M_J7_fill_fda19) dJ7_fill_fda19_7 rfl ?_
  refine x_istore (M := M_J7_fill_fda19) dJ7_fill_fda19_8 (Nat.le_of_ble_eq_true rfl) rfl ?_
  refine x_iload (M := M_J7_fill_fda19) dJ7_fill_fda19_10 rfl ?_
  refine x_iload_n (M := M_J7_fill_fda19) dJ7_fill_fda19_12 rfl ?_
  refine x_icmp_ge (M := M_J7_fill_fda19) (tgt := 27) dJ7_fill_fda19_13 (by decide) (fun _ => ?_) (fun q => absurd q (by decide +kernel))
  exact x_vret (M := M_J7_fill_fda19) dJ7_fill_fda19_27 rfl ⟨rfl, rfl⟩ (Nat.le_of_ble_eq_true rfl) (Nat.le_of_ble_eq_true rfl)
set_option maxRecDepth 10000 in
theorem q8619 {l : Launch} {E : EE} (hl : l.stackTraces = false) {h : HP} (o8612 : ob h 252 = some (.inr (10, [.ref 253, .ref 254, .ref 255, .ref 272, .ref 273]))) (o8613 : ob h 272 = some (.inl (0, 16, .inl (fun _ => 0)))) (o8614 : ob h 273 = some (.inl (0, 16, .inl (fun _ => 0)))) : en_C l E M_X7_trim 0 0 0 [.ref 252, .int (Int32.ofInt 13)] h (pF none [273] h (fun h' => ob h' 273 = some (.inl (0, 16, .inl (fun _ => 0))) ∧ True)) := by
  refine en_mk m_X7_trim rfl hl (Nat.le_of_ble_eq_true rfl) ?_
  refine x_aload_n (M := M_X7_trim) dX7_trim_0 rfl ?_
  refine x_getf (M := M_X7_trim) (ci := 10) (C := RX7) (T := TX7) (N := 5) (ty := tyX7) cl10 dX7_trim_1 o8612 3 (by decide) t_550 (v := .ref 272) rfl ?_
  refine x_iload_n (M := M_X7_trim) dX7_trim_4 rfl ?_
  refine x_iald (M := M_X7_trim) dX7_trim_5 o8613 (vp_inD (by decide +kernel)) ?_
  refine x_top (M := M_X7_trim) (y := (Int32.ofInt 0)) (by decide +kernel) ?_
  refine x_if_le (M := M_X7_trim) (tgt := 40) dX7_trim_6 (by decide) (fun _ => ?_) (fun q => absurd q (by decide +kernel))
  refine x_aload_n (M := M_X7_trim) dX7_trim_40 rfl ?_
  refine x_getf (M := M_X7_trim) (ci := 10) (C := RX7) (T := TX7) (N := 5) (ty := tyX7) cl10 dX7_trim_41 o8612 3 (by decide) t_550 (v := .ref 272) rfl ?_
  refine x_iload_n (M := M_X7_trim) dX7_trim_44 rfl ?_
  refine x_iald (M := M_X7_trim) dX7_trim_45 o8613 (vp_inD (by decide +kernel)) ?_
  refine x_top (M := M_X7_trim) (y := (Int32.ofInt 0)) (by decide +kernel) ?_
  refine x_if_ne (M := M_X7_trim) (tgt := 56) dX7_trim_46 (by decide) (fun q => absurd q (by decide +kernel)) (fun _ => ?_)
  refine x_aload_n (M := M_X7_trim) dX7_trim_49 rfl ?_
  refine x_getf (M := M_X7_trim) (ci := 10) (C := RX7) (T := TX7) (N := 5) (ty := tyX7) cl10 dX7_trim_50 o8612 4 (by decide) t_551 (v := .ref 273) rfl ?_
  refine x_iload_n (M := M_X7_trim) dX7_trim_53 rfl ?_
  refine x_iconst (M := M_X7_trim) dX7_trim_54 ?_
  refine y_iast (M := M_X7_trim) (k := 13) dX7_trim_55 o8614 (vp_inD (by decide +kernel)) (by decide +kernel) (fun h8615 w8616 f8617 => ?_)
  have w8618 : ob h8615 273 = some (.inl (0, 16, .inl (fun _ => 0))) := by rw [w8616, up_z (k := 13)]
  exact x_vret (M := M_X7_trim) dX7_trim_56 rfl ⟨rfl, (fr_tr f8617 (by decide) fr_rf), ⟨w8618, trivial⟩⟩ (Nat.le_of_ble_eq_true rfl) (Nat.le_of_ble_eq_true rfl)
set_option maxRecDepth 10000 in
theorem q8627 {l : Launch} {E : EE} (hl : l.stackTraces = false) {h : HP} (o8595 : ob h 252 = some (.inr (10, [.ref 253, .ref 254, .ref 255, .ref 272, .ref 273]))) (o8596 : ob h 272 = some (.inl (0, 16, .inl (fun _ => 0)))) (o8597 : ob h 255 = some (.inl (5, 16, .inr (.inr (.inr (.inr (fun i => if i < 16 then some (255 + 1 + i) else none))))))) (o8600 : ob h 269 = some (.inl (0, 280, .inl (fun _ => 0)))) (o8606 : ob h 273 = some (.inl (0, 16, .inl (fun _ => 0)))) : en_C l E M_X7_multiply 2 0 0 [.ref 252, .int (Int32.ofInt 13), .int (Int32.ofInt 2), .int (Int32.ofInt 2)] h (pF none [272, 273] h (fun h' => ob h' 272 = some (.inl (0, 16, .inl (fun _ => 0))) ∧ ob h' 273 = some (.inl (0, 16, .inl (fun _ => 0))) ∧ True)) := by
  refine en_mk m_X7_multiply rfl hl (Nat.le_of_ble_eq_true rfl) ?_
  refine x_aload_n (M := M_X7_multiply) dX7_multiply_0 rfl ?_
  refine x_getf (M := M_X7_multiply) (ci := 10) (C := RX7) (T := TX7) (N := 5) (ty := tyX7) cl10 dX7_multiply_1 o8595 3 (by decide) t_550 (v := .ref 272) rfl ?_
  refine x_iload_n (M := M_X7_multiply) dX7_multiply_4 rfl ?_
  refine x_iald (M := M_X7_multiply) dX7_multiply_5 o8596 (vp_inD (by decide +kernel)) ?_
  refine x_top (M := M_X7_multiply) (y := (Int32.ofInt 0)) (by decide +kernel) ?_
  refine x_aload_n (M := M_X7_multiply) dX7_multiply_6 rfl ?_
  refine x_getf (M := M_X7_multiply) (ci := 10) (C := RX7) (T := TX7) (N := 5) (ty := tyX7) cl10 dX7_multiply_7 o8595 3 (by decide) t_550 (v := .ref 272) rfl ?_
  refine x_iload_n (M := M_X7_multiply) dX7_multiply_10 rfl ?_
  refine x_iald (M := M_X7_multiply) dX7_multiply_11 o8596 (vp_inD (by decide +kernel)) ?_
  refine x_top (M := M_X7_multiply) (y := (Int32.ofInt 0)) (by decide +kernel) ?_
  refine x_iadd (M := M_X7_multiply) dX7_multiply_12 ?_
  refine x_sipush (M := M_X7_multiply) dX7_multiply_13 ?_
  refine x_mmin (M := M_X7_multiply) dX7_multiply_16 t_2351 t_626 t_20 t_627 (Nat.le_of_ble_eq_true rfl) (Nat.le_of_ble_eq_true rfl) (Nat.le_of_ble_eq_true rfl) (Nat.le_of_ble_eq_true rfl) ?_
  refine x_top (M := M_X7_multiply) (y := (Int32.ofInt 0)) (by decide +kernel) ?_
  refine x_istore (M := M_X7_multiply) dX7_multiply_19 (Nat.le_of_ble_eq_true rfl) rfl ?_
  refine x_aload_n (M := M_X7_multiply) dX7_multiply_21 rfl ?_
  refine x_getf (M := M_X7_multiply) (ci := 10) (C := RX7) (T := TX7) (N := 5) (ty := tyX7) cl10 dX7_multiply_22 o8595 2 (by decide) t_549 (v := .ref 255) rfl ?_
  refine x_iload_n (M := M_X7_multiply) dX7_multiply_25 rfl ?_
  refine x_gald (M := M_X7_multiply) (b := 269) dX7_multiply_26 o8597 (vp_inD (by decide +kernel)) (by decide +kernel) ?_
  refine x_iconst (M := M_X7_multiply) dX7_multiply_27 ?_
  refine x_iload (M := M_X7_multiply) dX7_multiply_28 rfl ?_
  refine x_iconst (M := M_X7_multiply) dX7_multiply_30 ?_
  refine x_callSR (M := M_X7_multiply) (M' := M_J7_fill_fda19) rfl rfl dX7_multiply_31 m_J7_fill_fda19 t_2337 t_1522 (q8599 hl o8600) rfl rfl (Nat.le_of_ble_eq_true rfl) (Nat.le_of_ble_eq_true rfl) (Nat.le_of_ble_eq_true rfl) (Nat.le_of_ble_eq_true rfl) ?_
  refine x_iconst (M := M_X7_multiply) dX7_multiply_34 ?_
  refine x_istore (M := M_X7_multiply) dX7_multiply_35 (Nat.le_of_ble_eq_true rfl) rfl ?_
  refine x_iload (M := M_X7_multiply) dX7_multiply_37 rfl ?_
  refine x_aload_n (M := M_X7_multiply) dX7_multiply_39 rfl ?_
  refine x_getf (M := M_X7_multiply) (ci := 10) (C := RX7) (T := TX7) (N := 5) (ty := tyX7) cl10 dX7_multiply_40 o8595 3 (by decide) t_550 (v := .ref 272) rfl ?_
  refine x_iload_n (M := M_X7_multiply) dX7_multiply_43 rfl ?_
  refine x_iald (M := M_X7_multiply) dX7_multiply_44 o8596 (vp_inD (by decide +kernel)) ?_
  refine x_top (M := M_X7_multiply) (y := (Int32.ofInt 0)) (by decide +kernel) ?_
  refine x_icmp_ge (M := M_X7_multiply) (tgt := 161) dX7_multiply_45 (by decide) (fun _ => ?_) (fun q => absurd q (by decide +kernel))
  refine x_aload_n (M := M_X7_multiply) dX7_multiply_161 rfl ?_
  refine x_getf (M := M_X7_multiply) (ci := 10) (C := RX7) (T := TX7) (N := 5) (ty := tyX7) cl10 dX7_multiply_162 o8595 3 (by decide) t_550 (v := .ref 272) rfl ?_
  refine x_iload_n (M := M_X7_multiply) dX7_multiply_165 rfl ?_
  refine x_iload (M := M_X7_multiply) dX7_multiply_166 rfl ?_
  refine y_iast (M := M_X7_multiply) (k := 13) dX7_multiply_168 o8596 (vp_inD (by decide +kernel)) (by decide +kernel) (fun h8601 w8602 f8603 => ?_)
  have w8604 : ob h8601 272 = some (.inl (0, 16, .inl (fun _ => 0))) := by rw [w8602, up_z (k := 13)]
  refine x_aload_n (M := M_X7_multiply) dX7_multiply_169 rfl ?_
  have o8605 := (f8603 252 _ (by decide) o8595)
  refine x_getf (M := M_X7_multiply) (ci := 10) (C := RX7) (T := TX7) (N := 5) (ty := tyX7) cl10 dX7_multiply_170 o8605 4 (by decide) t_551 (v := .ref 273) rfl ?_
  refine x_iload_n (M := M_X7_multiply) dX7_multiply_173 rfl ?_
  refine x_aload_n (M := M_X7_multiply) dX7_multiply_174 rfl ?_
  refine x_getf (M := M_X7_multiply) (ci := 10) (C := RX7) (T := TX7) (N := 5) (ty := tyX7) cl10 dX7_multiply_175 o8605 4 (by decide) t_551 (v := .ref 273) rfl ?_
  refine x_iload_n (M := M_X7_multiply) dX7_multiply_178 rfl ?_
  have o8607 := (f8603 273 _ (by decide) o8606)
  refine x_iald (M := M_X7_multiply) dX7_multiply_179 o8607 (vp_inD (by decide +kernel)) ?_
  refine x_top (M := M_X7_multiply) (y := (Int32.ofInt 0)) (by decide +kernel) ?_
  refine x_aload_n (M := M_X7_multiply) dX7_multiply_180 rfl ?_
  refine x_getf (M := M_X7_multiply) (ci := 10) (C := RX7) (T := TX7) (N := 5) (ty := tyX7) cl10 dX7_multiply_181 o8605 4 (by decide) t_551 (v := .ref 273) rfl ?_
  refine x_iload_n (M := M_X7_multiply) dX7_multiply_184 rfl ?_
  refine x_iald (M := M_X7_multiply) dX7_multiply_185 o8607 (vp_inD (by decide +kernel)) ?_
  refine x_top (M := M_X7_multiply) (y := (Int32.ofInt 0)) (by decide +kernel) ?_
  refine x_imul (M := M_X7_multiply) dX7_multiply_186 ?_
  refine x_norm (M := M_X7_multiply) (st' := [.int (Int32.ofInt 0), .int (Int32.ofInt 13), .ref 273]) rfl (vi_cons (by decide +kernel : ((Int32.ofInt 0) * (Int32.ofInt 0)) = (Int32.ofInt 0)) rfl) rfl rfl rfl ?_
  refine y_iast (M := M_X7_multiply) (k := 13) dX7_multiply_187 o8607 (vp_inD (by decide +kernel)) (by decide +kernel) (fun h8608 w8609 f8610 => ?_)
  have w8611 : ob h8608 273 = some (.inl (0, 16, .inl (fun _ => 0))) := by rw [w8609, up_z (k := 13)]
  refine x_aload_n (M := M_X7_multiply) dX7_multiply_188 rfl ?_
  refine x_iload_n (M := M_X7_multiply) dX7_multiply_189 rfl ?_
  have o8620 := (f8610 252 _ (by decide) o8605)
  have o8621 := (f8610 272 _ (by decide) w8604)
  refine y_callVR (M := M_X7_multiply) (M' := M_X7_trim) rfl rfl dX7_multiply_190 m_X7_trim t_2339 t_2341 s_150 (q8619 hl o8620 o8621 w8611) rfl rfl o8620 rfl (Nat.le_of_ble_eq_true rfl) (Nat.le_of_ble_eq_true rfl) (Nat.le_of_ble_eq_true rfl) (Nat.le_of_ble_eq_true rfl) (fun h8622 f8623 w8624 => ?_)
  obtain ⟨o8625, -⟩ := w8624
  have o8626 := (f8623 272 _ (by decide) o8621)
  exact x_vret (M := M_X7_multiply) dX7_multiply_193 rfl ⟨rfl, (fr_tr f8623 (by decide) (fr_tr f8610 (by decide) (fr_tr f8603 (by decide) fr_rf))), ⟨o8626, o8625, trivial⟩⟩ (Nat.le_of_ble_eq_true rfl) (Nat.le_of_ble_eq_true rfl)
set_option maxRecDepth 10000 in
theorem q8642 {l : Launch} {E : EE} (hl : l.stackTraces = false) {h : HP} (o8641 : ob h 270 = some (.inl (0, 280, .inl (fun _ => 0)))) : en_C l E M_J7_fill_fda19 1 0 0 [.ref 270, .int (Int32.ofInt 0), .int (Int32.ofInt 0), .int (Int32.ofInt 0)] h (pR none h) := by
  refine en_mk m_J7_fill_fda19 rfl hl (Nat.le_of_ble_eq_true rfl) ?_
  refine x_aload_n (M := M_J7_fill_fda19) dJ7_fill_fda19_0 rfl ?_
  refine x_alen (M := M_J7_fill_fda19) dJ7_fill_fda19_1 o8641 (by decide) ?_
  refine x_iload_n (M := M_J7_fill_fda19) dJ7_fill_fda19_2 rfl ?_
  refine x_iload_n (M := M_J7_fill_fda19) dJ7_fill_fda19_3 rfl ?_
  refine x_norm (M := M_J7_fill_fda19) (st' := [.int (Int32.ofInt 0), .int (Int32.ofInt 0), .int (Int32.ofInt 280)]) rfl (v_cons (v_cons (vi_cons (by decide +kernel : (Int32.ofNat 280) = (Int32.ofInt 280)) rfl))) rfl rfl rfl ?_
  refine x_callSR (M := M_J7_fill_fda19) (M' := M_J7_rangeCheck_23922) rfl rfl dJ7_fill_fda19_4 m_J7_rangeCheck_23922 t_1524 t_1525 (q7214 hl) rfl rfl (Nat.le_of_ble_eq_true rfl) (Nat.le_of_ble_eq_true rfl) (Nat.le_of_ble_eq_true rfl) (Nat.le_of_ble_eq_true rfl) ?_
  refine x_iload_n (M := M_J7_fill_fda19) dJ7_fill_fda19_7 rfl ?_
  refine x_istore (M := M_J7_fill_fda19) dJ7_fill_fda19_8 (Nat.le_of_ble_eq_true rfl) rfl ?_
  refine x_iload (M := M_J7_fill_fda19) dJ7_fill_fda19_10 rfl ?_
  refine x_iload_n (M := M_J7_fill_fda19) dJ7_fill_fda19_12 rfl ?_
  refine x_icmp_ge (M := M_J7_fill_fda19) (tgt := 27) dJ7_fill_fda19_13 (by decide) (fun _ => ?_) (fun q => absurd q (by decide +kernel))
  exact x_vret (M := M_J7_fill_fda19) dJ7_fill_fda19_27 rfl ⟨rfl, rfl⟩ (Nat.le_of_ble_eq_true rfl) (Nat.le_of_ble_eq_true rfl)
set_option maxRecDepth 10000 in
theorem q8662 {l : Launch} {E : EE} (hl : l.stackTraces = false) {h : HP} (o8655 : ob h 252 = some (.inr (10, [.ref 253, .ref 254, .ref 255, .ref 272, .ref 273]))) (o8656 : ob h 272 = some (.inl (0, 16, .inl (fun _ => 0)))) (o8657 : ob h 273 = some (.inl (0, 16, .inl (fun _ => 0)))) : en_C l E M_X7_trim 0 0 0 [.ref 252, .int (Int32.ofInt 14)] h (pF none [273] h (fun h' => ob h' 273 = some (.inl (0, 16, .inl (fun _ => 0))) ∧ True)) := by
  refine en_mk m_X7_trim rfl hl (Nat.le_of_ble_eq_true rfl) ?_
  refine x_aload_n (M := M_X7_trim) dX7_trim_0 rfl ?_
  refine x_getf (M := M_X7_trim) (ci := 10) (C := RX7) (T := TX7) (N := 5) (ty := tyX7) cl10 dX7_trim_1 o8655 3 (by decide) t_550 (v := .ref 272) rfl ?_
  refine x_iload_n (M := M_X7_trim) dX7_trim_4 rfl ?_
  refine x_iald (M := M_X7_trim) dX7_trim_5 o8656 (vp_inD (by decide +kernel)) ?_
  refine x_top (M := M_X7_trim) (y := (Int32.ofInt 0)) (by decide +kernel) ?_
  refine x_if_le (M := M_X7_trim) (tgt := 40) dX7_trim_6 (by decide) (fun _ => ?_) (fun q => absurd q (by decide +kernel))
  refine x_aload_n (M := M_X7_trim) dX7_trim_40 rfl ?_
  refine x_getf (M := M_X7_trim) (ci := 10) (C := RX7) (T := TX7) (N := 5) (ty := tyX7) cl10 dX7_trim_41 o8655 3 (by decide) t_550 (v := .ref 272) rfl ?_
  refine x_iload_n (M := M_X7_trim) dX7_trim_44 rfl ?_
  refine x_iald (M := M_X7_trim) dX7_trim_45 o8656 (vp_inD (by decide +kernel)) ?_
  refine x_top (M := M_X7_trim) (y := (Int32.ofInt 0)) (by decide +kernel) ?_
  refine x_if_ne (M := M_X7_trim) (tgt := 56) dX7_trim_46 (by decide) (fun q => absurd q (by decide +kernel)) (fun _ => ?_)
  refine x_aload_n (M := M_X7_trim) dX7_trim_49 rfl ?_
  refine x_getf (M := M_X7_trim) (ci := 10) (C := RX7) (T := TX7) (N := 5) (ty := tyX7) cl10 dX7_trim_50 o8655 4 (by decide) t_551 (v := .ref 273) rfl ?_
  refine x_iload_n (M := M_X7_trim) dX7_trim_53 rfl ?_
  refine x_iconst (M := M_X7_trim) dX7_trim_54 ?_
  refine y_iast (M := M_X7_trim) (k := 14) dX7_trim_55 o8657 (vp_inD (by decide +kernel)) (by decide +kernel) (fun h8658 w8659 f8660 => ?_)
  have w8661 : ob h8658 273 = some (.inl (0, 16, .inl (fun _ => 0))) := by rw [w8659, up_z (k := 14)]
  exact x_vret (M := M_X7_trim) dX7_trim_56 rfl ⟨rfl, (fr_tr f8660 (by decide) fr_rf), ⟨w8661, trivial⟩⟩ (Nat.le_of_ble_eq_true rfl) (Nat.le_of_ble_eq_true rfl)
set_option maxRecDepth 10000 in
theorem q8670 {l : Launch} {E : EE} (hl : l.stackTraces = false) {h : HP} (o8638 : ob h 252 = some (.inr (10, [.ref 253, .ref 254, .ref 255, .ref 272, .ref 273]))) (o8639 : ob h 272 = some (.inl (0, 16, .inl (fun _ => 0)))) (o8640 : ob h 255 = some (.inl (5, 16, .inr (.inr (.inr (.inr (fun i => if i < 16 then some (255 + 1 + i) else none))))))) (o8643 : ob h 270 = some (.inl (0, 280, .inl (fun _ => 0)))) (o8649 : ob h 273 = some (.inl (0, 16, .inl (fun _ => 0)))) : en_C l E M_X7_multiply 2 0 0 [.ref 252, .int (Int32.ofInt 14), .int (Int32.ofInt 3), .int (Int32.ofInt 3)] h (pF none [272, 273] h (fun h' => ob h' 272 = some (.inl (0, 16, .inl (fun _ => 0))) ∧ ob h' 273 = some (.inl (0, 16, .inl (fun _ => 0))) ∧ True)) := by
  refine en_mk m_X7_multiply rfl hl (Nat.le_of_ble_eq_true rfl) ?_
  refine x_aload_n (M := M_X7_multiply) dX7_multiply_0 rfl ?_
  refine x_getf (M := M_X7_multiply) (ci := 10) (C := RX7) (T := TX7) (N := 5) (ty := tyX7) cl10 dX7_multiply_1 o8638 3 (by decide) t_550 (v := .ref 272) rfl ?_
  refine x_iload_n (M := M_X7_multiply) dX7_multiply_4 rfl ?_
  refine x_iald (M := M_X7_multiply) dX7_multiply_5 o8639 (vp_inD (by decide +kernel)) ?_
  refine x_top (M := M_X7_multiply) (y := (Int32.ofInt 0)) (by decide +kernel) ?_
  refine x_aload_n (M := M_X7_multiply) dX7_multiply_6 rfl ?_
  refine x_getf (M := M_X7_multiply) (ci := 10) (C := RX7) (T := TX7) (N := 5) (ty := tyX7) cl10 dX7_multiply_7 o8638 3 (by decide) t_550 (v := .ref 272) rfl ?_
  refine x_iload_n (M := M_X7_multiply) dX7_multiply_10 rfl ?_
  refine x_iald (M := M_X7_multiply) dX7_multiply_11 o8639 (vp_inD (by decide +kernel)) ?_
  refine x_top (M := M_X7_multiply) (y := (Int32.ofInt 0)) (by decide +kernel) ?_
  refine x_iadd (M := M_X7_multiply) dX7_multiply_12 ?_
  refine x_sipush (M := M_X7_multiply) dX7_multiply_13 ?_
  refine x_mmin (M := M_X7_multiply) dX7_multiply_16 t_2351 t_626 t_20 t_627 (Nat.le_of_ble_eq_true rfl) (Nat.le_of_ble_eq_true rfl) (Nat.le_of_ble_eq_true rfl) (Nat.le_of_ble_eq_true rfl) ?_
  refine x_top (M := M_X7_multiply) (y := (Int32.ofInt 0)) (by decide +kernel) ?_
  refine x_istore (M := M_X7_multiply) dX7_multiply_19 (Nat.le_of_ble_eq_true rfl) rfl ?_
  refine x_aload_n (M := M_X7_multiply) dX7_multiply_21 rfl ?_
  refine x_getf (M := M_X7_multiply) (ci := 10) (C := RX7) (T := TX7) (N := 5) (ty := tyX7) cl10 dX7_multiply_22 o8638 2 (by decide) t_549 (v := .ref 255) rfl ?_
  refine x_iload_n (M := M_X7_multiply) dX7_multiply_25 rfl ?_
  refine x_gald (M := M_X7_multiply) (b := 270) dX7_multiply_26 o8640 (vp_inD (by decide +kernel)) (by decide +kernel) ?_
  refine x_iconst (M := M_X7_multiply) dX7_multiply_27 ?_
  refine x_iload (M := M_X7_multiply) dX7_multiply_28 rfl ?_
  refine x_iconst (M := M_X7_multiply) dX7_multiply_30 ?_
  refine x_callSR (M := M_X7_multiply) (M' := M_J7_fill_fda19) rfl rfl dX7_multiply_31 m_J7_fill_fda19 t_2337 t_1522 (q8642 hl o8643) rfl rfl (Nat.le_of_ble_eq_true rfl) (Nat.le_of_ble_eq_true rfl) (Nat.le_of_ble_eq_true rfl) (Nat.le_of_ble_eq_true rfl) ?_
  refine x_iconst (M := M_X7_multiply) dX7_multiply_34 ?_
  refine x_istore (M := M_X7_multiply) dX7_multiply_35 (Nat.le_of_ble_eq_true rfl) rfl ?_
  refine x_iload (M := M_X7_multiply) dX7_multiply_37 rfl ?_
  refine x_aload_n (M := M_X7_multiply) dX7_multiply_39 rfl ?_
  refine x_getf (M := M_X7_multiply) (ci := 10) (C := RX7) (T := TX7) (N := 5) (ty := tyX7) cl10 dX7_multiply_40 o8638 3 (by decide) t_550 (v := .ref 272) rfl ?_
  refine x_iload_n (M := M_X7_multiply) dX7_multiply_43 rfl ?_
  refine x_iald (M := M_X7_multiply) dX7_multiply_44 o8639 (vp_inD (by decide +kernel)) ?_
  refine x_top (M := M_X7_multiply) (y := (Int32.ofInt 0)) (by decide +kernel) ?_
  refine x_icmp_ge (M := M_X7_multiply) (tgt := 161) dX7_multiply_45 (by decide) (fun _ => ?_) (fun q => absurd q (by decide +kernel))
  refine x_aload_n (M := M_X7_multiply) dX7_multiply_161 rfl ?_
  refine x_getf (M := M_X7_multiply) (ci := 10) (C := RX7) (T := TX7) (N := 5) (ty := tyX7) cl10 dX7_multiply_162 o8638 3 (by decide) t_550 (v := .ref 272) rfl ?_
  refine x_iload_n (M := M_X7_multiply) dX7_multiply_165 rfl ?_
  refine x_iload (M := M_X7_multiply) dX7_multiply_166 rfl ?_
  refine y_iast (M := M_X7_multiply) (k := 14) dX7_multiply_168 o8639 (vp_inD (by decide +kernel)) (by decide +kernel) (fun h8644 w8645 f8646 => ?_)
  have w8647 : ob h8644 272 = some (.inl (0, 16, .inl (fun _ => 0))) := by rw [w8645, up_z (k := 14)]
  refine x_aload_n (M := M_X7_multiply) dX7_multiply_169 rfl ?_
  have o8648 := (f8646 252 _ (by decide) o8638)
  refine x_getf (M := M_X7_multiply) (ci := 10) (C := RX7) (T := TX7) (N := 5) (ty := tyX7) cl10 dX7_multiply_170 o8648 4 (by decide) t_551 (v := .ref 273) rfl ?_
  refine x_iload_n (M := M_X7_multiply) dX7_multiply_173 rfl ?_
  refine x_aload_n (M := M_X7_multiply) dX7_multiply_174 rfl ?_
  refine x_getf (M := M_X7_multiply) (ci := 10) (C := RX7) (T := TX7) (N := 5) (ty := tyX7) cl10 dX7_multiply_175 o8648 4 (by decide) t_551 (v := .ref 273) rfl ?_
  refine x_iload_n (M := M_X7_multiply) dX7_multiply_178 rfl ?_
  have o8650 := (f8646 273 _ (by decide) o8649)
  refine x_iald (M := M_X7_multiply) dX7_multiply_179 o8650 (vp_inD (by decide +kernel)) ?_
  refine x_top (M := M_X7_multiply) (y := (Int32.ofInt 0)) (by decide +kernel) ?_
  refine x_aload_n (M := M_X7_multiply) dX7_multiply_180 rfl ?_
  refine x_getf (M := M_X7_multiply) (ci := 10) (C := RX7) (T := TX7) (N := 5) (ty := tyX7) cl10 dX7_multiply_181 o8648 4 (by decide) t_551 (v := .ref 273) rfl ?_
  refine x_iload_n (M := M_X7_multiply) dX7_multiply_184 rfl ?_
  refine x_iald (M := M_X7_multiply) dX7_multiply_185 o8650 (vp_inD (by decide +kernel)) ?_
  refine x_top (M := M_X7_multiply) (y := (Int32.ofInt 0)) (by decide +kernel) ?_
  refine x_imul (M := M_X7_multiply) dX7_multiply_186 ?_
  refine x_norm (M := M_X7_multiply) (st' := [.int (Int32.ofInt 0), .int (Int32.ofInt 14), .ref 273]) rfl (vi_cons (by decide +kernel : ((Int32.ofInt 0) * (Int32.ofInt 0)) = (Int32.ofInt 0)) rfl) rfl rfl rfl ?_
  refine y_iast (M := M_X7_multiply) (k := 14) dX7_multiply_187 o8650 (vp_inD (by decide +kernel)) (by decide +kernel) (fun h8651 w8652 f8653 => ?_)
  have w8654 : ob h8651 273 = some (.inl (0, 16, .inl (fun _ => 0))) := by rw [w8652, up_z (k := 14)]
  refine x_aload_n (M := M_X7_multiply) dX7_multiply_188 rfl ?_
  refine x_iload_n (M := M_X7_multiply) dX7_multiply_189 rfl ?_
  have o8663 := (f8653 252 _ (by decide) o8648)
  have o8664 := (f8653 272 _ (by decide) w8647)
  refine y_callVR (M := M_X7_multiply) (M' := M_X7_trim) rfl rfl dX7_multiply_190 m_X7_trim t_2339 t_2341 s_150 (q8662 hl o8663 o8664 w8654) rfl rfl o8663 rfl (Nat.le_of_ble_eq_true rfl) (Nat.le_of_ble_eq_true rfl) (Nat.le_of_ble_eq_true rfl) (Nat.le_of_ble_eq_true rfl) (fun h8665 f8666 w8667 => ?_)
  obtain ⟨o8668, -⟩ := w8667
  have o8669 := (f8666 272 _ (by decide) o8664)
  exact x_vret (M := M_X7_multiply) dX7_multiply_193 rfl ⟨rfl, (fr_tr f8666 (by decide) (fr_tr f8653 (by decide) (fr_tr f8646 (by decide) fr_rf))), ⟨o8669, o8668, trivial⟩⟩ (Nat.le_of_ble_eq_true rfl) (Nat.le_of_ble_eq_true rfl)
set_option maxRecDepth 10000 in
theorem q8686 {l : Launch} {E : EE} (hl : l.stackTraces = false) {h : HP} (o8684 : ob h 252 = some (.inr (10, [.ref 253, .ref 254, .ref 255, .ref 272, .ref 273]))) (o8685 : ob h 272 = some (.inl (0, 16, .inl (fun _ => 0)))) : en_C l E M_X7_limbAt 0 0 0 [.ref 252, .int (Int32.ofInt 13), .int (Int32.ofInt 0)] h (pR (some (.long (Int64.ofInt 0))) h) := by
  refine en_mk m_X7_limbAt rfl hl (Nat.le_of_ble_eq_true rfl) ?_
  refine x_iload_n (M := M_X7_limbAt) dX7_limbAt_0 rfl ?_
  refine x_aload_n (M := M_X7_limbAt) dX7_limbAt_1 rfl ?_
  refine x_getf (M := M_X7_limbAt) (ci := 10) (C := RX7) (T := TX7) (N := 5) (ty := tyX7) cl10 dX7_limbAt_2 o8684 3 (by decide) t_550 (v := .ref 272) rfl ?_
  refine x_iload_n (M := M_X7_limbAt) dX7_limbAt_5 rfl ?_
  refine x_iald (M := M_X7_limbAt) dX7_limbAt_6 o8685 (vp_inD (by decide +kernel)) ?_
  refine x_top (M := M_X7_limbAt) (y := (Int32.ofInt 0)) (by decide +kernel) ?_
  refine x_icmp_ge (M := M_X7_limbAt) (tgt := 26) dX7_limbAt_7 (by decide) (fun _ => ?_) (fun q => absurd q (by decide +kernel))
  refine x_lconst (M := M_X7_limbAt) dX7_limbAt_26 ?_
  refine x_topl (M := M_X7_limbAt) (y := (Int64.ofInt 0)) (by decide +kernel) ?_
  exact x_lret (M := M_X7_limbAt) dX7_limbAt_27 rfl ⟨rfl, rfl⟩ (Nat.le_of_ble_eq_true rfl) (Nat.le_of_ble_eq_true rfl)
set_option maxRecDepth 10000 in
theorem q8689 {l : Launch} {E : EE} (hl : l.stackTraces = false) {h : HP} (o8687 : ob h 252 = some (.inr (10, [.ref 253, .ref 254, .ref 255, .ref 272, .ref 273]))) (o8688 : ob h 272 = some (.inl (0, 16, .inl (fun _ => 0)))) : en_C l E M_X7_limbAt 0 0 0 [.ref 252, .int (Int32.ofInt 14), .int (Int32.ofInt 0)] h (pR (some (.long (Int64.ofInt 0))) h) := by
  refine en_mk m_X7_limbAt rfl hl (Nat.le_of_ble_eq_true rfl) ?_
  refine x_iload_n (M := M_X7_limbAt) dX7_limbAt_0 rfl ?_
  refine x_aload_n (M := M_X7_limbAt) dX7_limbAt_1 rfl ?_
  refine x_getf (M := M_X7_limbAt) (ci := 10) (C := RX7) (T := TX7) (N := 5) (ty := tyX7) cl10 dX7_limbAt_2 o8687 3 (by decide) t_550 (v := .ref 272) rfl ?_
  refine x_iload_n (M := M_X7_limbAt) dX7_limbAt_5 rfl ?_
  refine x_iald (M := M_X7_limbAt) dX7_limbAt_6 o8688 (vp_inD (by decide +kernel)) ?_
  refine x_top (M := M_X7_limbAt) (y := (Int32.ofInt 0)) (by decide +kernel) ?_
  refine x_icmp_ge (M := M_X7_limbAt) (tgt := 26) dX7_limbAt_7 (by decide) (fun _ => ?_) (fun q => absurd q (by decide +kernel))
  refine x_lconst (M := M_X7_limbAt) dX7_limbAt_26 ?_
  refine x_topl (M := M_X7_limbAt) (y := (Int64.ofInt 0)) (by decide +kernel) ?_
  exact x_lret (M := M_X7_limbAt) dX7_limbAt_27 rfl ⟨rfl, rfl⟩ (Nat.le_of_ble_eq_true rfl) (Nat.le_of_ble_eq_true rfl)
set_option maxRecDepth 10000 in
theorem q8702 {l : Launch} {E : EE} (hl : l.stackTraces = false) {h : HP} (o8682 : ob h 252 = some (.inr (10, [.ref 253, .ref 254, .ref 255, .ref 272, .ref 273]))) (o8683 : ob h 272 = some (.inl (0, 16, .inl (fun _ => 0)))) (o8690 : ob h 255 = some (.inl (5, 16, .inr (.inr (.inr (.inr (fun i => if i < 16 then some (255 + 1 + i) else none))))))) (o8691 : ob h 271 = some (.inl (0, 280, .inl (fun _ => 0)))) : en_C l E M_X7_addLimbs 1 0 0 [.ref 252, .int (Int32.ofInt 15), .int (Int32.ofInt 13), .int (Int32.ofInt 14), .int (Int32.ofInt 1)] h (pF none [271, 272] h (fun h' => ob h' 271 = some (.inl (0, 280, .inl (fun _ => 0))) ∧ ob h' 272 = some (.inl (0, 16, .inl (upd (fun _ => 0) 15 (Int32.ofInt 1)))) ∧ True)) := by
  refine en_mk m_X7_addLimbs rfl hl (Nat.le_of_ble_eq_true rfl) ?_
  refine x_aload_n (M := M_X7_addLimbs) dX7_addLimbs_0 rfl ?_
  refine x_getf (M := M_X7_addLimbs) (ci := 10) (C := RX7) (T := TX7) (N := 5) (ty := tyX7) cl10 dX7_addLimbs_1 o8682 3 (by decide) t_550 (v := .ref 272) rfl ?_
  refine x_iload_n (M := M_X7_addLimbs) dX7_addLimbs_4 rfl ?_
  refine x_iald (M := M_X7_addLimbs) dX7_addLimbs_5 o8683 (vp_inD (by decide +kernel)) ?_
  refine x_top (M := M_X7_addLimbs) (y := (Int32.ofInt 0)) (by decide +kernel) ?_
  refine x_aload_n (M := M_X7_addLimbs) dX7_addLimbs_6 rfl ?_
  refine x_getf (M := M_X7_addLimbs) (ci := 10) (C := RX7) (T := TX7) (N := 5) (ty := tyX7) cl10 dX7_addLimbs_7 o8682 3 (by decide) t_550 (v := .ref 272) rfl ?_
  refine x_iload_n (M := M_X7_addLimbs) dX7_addLimbs_10 rfl ?_
  refine x_iald (M := M_X7_addLimbs) dX7_addLimbs_11 o8683 (vp_inD (by decide +kernel)) ?_
  refine x_top (M := M_X7_addLimbs) (y := (Int32.ofInt 0)) (by decide +kernel) ?_
  refine x_mmax (M := M_X7_addLimbs) dX7_addLimbs_12 t_2336 t_1013 t_20 t_1014 (Nat.le_of_ble_eq_true rfl) (Nat.le_of_ble_eq_true rfl) (Nat.le_of_ble_eq_true rfl) (Nat.le_of_ble_eq_true rfl) ?_
  refine x_top (M := M_X7_addLimbs) (y := (Int32.ofInt 0)) (by decide +kernel) ?_
  refine x_iconst (M := M_X7_addLimbs) dX7_addLimbs_15 ?_
  refine x_iadd (M := M_X7_addLimbs) dX7_addLimbs_16 ?_
  refine x_sipush (M := M_X7_addLimbs) dX7_addLimbs_17 ?_
  refine x_mmin (M := M_X7_addLimbs) dX7_addLimbs_20 t_2351 t_626 t_20 t_627 (Nat.le_of_ble_eq_true rfl) (Nat.le_of_ble_eq_true rfl) (Nat.le_of_ble_eq_true rfl) (Nat.le_of_ble_eq_true rfl) ?_
  refine x_top (M := M_X7_addLimbs) (y := (Int32.ofInt 1)) (by decide +kernel) ?_
  refine x_istore (M := M_X7_addLimbs) dX7_addLimbs_23 (Nat.le_of_ble_eq_true rfl) rfl ?_
  refine x_lconst (M := M_X7_addLimbs) dX7_addLimbs_25 ?_
  refine x_topl (M := M_X7_addLimbs) (y := (Int64.ofInt 0)) (by decide +kernel) ?_
  refine x_lstore (M := M_X7_addLimbs) dX7_addLimbs_26 (Nat.le_of_ble_eq_true rfl) rfl ?_
  refine x_iconst (M := M_X7_addLimbs) dX7_addLimbs_28 ?_
  refine x_istore (M := M_X7_addLimbs) dX7_addLimbs_29 (Nat.le_of_ble_eq_true rfl) rfl ?_
  refine x_iload (M := M_X7_addLimbs) dX7_addLimbs_31 rfl ?_
  refine x_iload (M := M_X7_addLimbs) dX7_addLimbs_33 rfl ?_
  refine x_icmp_ge (M := M_X7_addLimbs) (tgt := 87) dX7_addLimbs_35 (by decide) (fun q => absurd q (by decide +kernel)) (fun _ => ?_)
  refine x_aload_n (M := M_X7_addLimbs) dX7_addLimbs_38 rfl ?_
  refine x_iload_n (M := M_X7_addLimbs) dX7_addLimbs_39 rfl ?_
  refine x_iload (M := M_X7_addLimbs) dX7_addLimbs_40 rfl ?_
  refine x_callVR (M := M_X7_addLimbs) (M' := M_X7_limbAt) rfl rfl dX7_addLimbs_42 m_X7_limbAt t_2352 t_2354 s_153 (q8686 hl o8682 o8683) rfl rfl o8682 rfl (Nat.le_of_ble_eq_true rfl) (Nat.le_of_ble_eq_true rfl) (Nat.le_of_ble_eq_true rfl) (Nat.le_of_ble_eq_true rfl) ?_
  refine x_iload (M := M_X7_addLimbs) dX7_addLimbs_45 rfl ?_
  refine x_i2l (M := M_X7_addLimbs) dX7_addLimbs_47 ?_
  refine x_aload_n (M := M_X7_addLimbs) dX7_addLimbs_48 rfl ?_
  refine x_iload_n (M := M_X7_addLimbs) dX7_addLimbs_49 rfl ?_
  refine x_iload (M := M_X7_addLimbs) dX7_addLimbs_50 rfl ?_
  refine x_callVR (M := M_X7_addLimbs) (M' := M_X7_limbAt) rfl rfl dX7_addLimbs_52 m_X7_limbAt t_2352 t_2354 s_153 (q8689 hl o8682 o8683) rfl rfl o8682 rfl (Nat.le_of_ble_eq_true rfl) (Nat.le_of_ble_eq_true rfl) (Nat.le_of_ble_eq_true rfl) (Nat.le_of_ble_eq_true rfl) ?_
  refine x_lmul (M := M_X7_addLimbs) dX7_addLimbs_55 ?_
  refine x_ladd (M := M_X7_addLimbs) dX7_addLimbs_56 ?_
  refine x_lload (M := M_X7_addLimbs) dX7_addLimbs_57 rfl ?_
  refine x_ladd (M := M_X7_addLimbs) dX7_addLimbs_59 ?_
  refine x_topl (M := M_X7_addLimbs) (y := (Int64.ofInt 0)) (by decide +kernel) ?_
  refine x_lstore (M := M_X7_addLimbs) dX7_addLimbs_60 (Nat.le_of_ble_eq_true rfl) rfl ?_
  refine x_aload_n (M := M_X7_addLimbs) dX7_addLimbs_62 rfl ?_
  refine x_getf (M := M_X7_addLimbs) (ci := 10) (C := RX7) (T := TX7) (N := 5) (ty := tyX7) cl10 dX7_addLimbs_63 o8682 2 (by decide) t_549 (v := .ref 255) rfl ?_
  refine x_iload_n (M := M_X7_addLimbs) dX7_addLimbs_66 rfl ?_
  refine x_gald (M := M_X7_addLimbs) (b := 271) dX7_addLimbs_67 o8690 (vp_inD (by decide +kernel)) (by decide +kernel) ?_
  refine x_iload (M := M_X7_addLimbs) dX7_addLimbs_68 rfl ?_
  refine x_lload (M := M_X7_addLimbs) dX7_addLimbs_70 rfl ?_
  refine x_l2i (M := M_X7_addLimbs) dX7_addLimbs_72 ?_
  refine x_norm (M := M_X7_addLimbs) (st' := [.int (Int32.ofInt 0), .int (Int32.ofInt 0), .ref 271]) rfl (vi_cons (by decide +kernel : ((Int64.ofInt 0).toInt32) = (Int32.ofInt 0)) rfl) rfl rfl rfl ?_
  refine y_iast (M := M_X7_addLimbs) (k := 0) dX7_addLimbs_73 o8691 (vp_inD (by decide +kernel)) (by decide +kernel) (fun h8692 w8693 f8694 => ?_)
  have w8695 : ob h8692 271 = some (.inl (0, 280, .inl (fun _ => 0))) := by rw [w8693, up_z (k := 0)]
  refine x_lload (M := M_X7_addLimbs) dX7_addLimbs_74 rfl ?_
  refine x_bipush (M := M_X7_addLimbs) dX7_addLimbs_76 ?_
  refine x_lshr (M := M_X7_addLimbs) dX7_addLimbs_78 ?_
  refine x_topl (M := M_X7_addLimbs) (y := (Int64.ofInt 0)) (by decide +kernel) ?_
  refine x_lstore (M := M_X7_addLimbs) dX7_addLimbs_79 (Nat.le_of_ble_eq_true rfl) rfl ?_
  refine x_lvs (M := M_X7_addLimbs) (lv' := [some (.ref 252), some (.int (Int32.ofInt 15)), some (.int (Int32.ofInt 13)), some (.int (Int32.ofInt 14)), some (.int (Int32.ofInt 1)), some (.int (Int32.ofInt 1)), some (.long (Int64.ofInt 0)), none, some (.int (Int32.ofInt 0)), some (.long (Int64.ofInt 0)), none]) rfl ?_
  refine x_iinc (M := M_X7_addLimbs) dX7_addLimbs_81 rfl (Nat.le_of_ble_eq_true rfl) rfl ?_
  refine x_lvs (M := M_X7_addLimbs) (lv' := [some (.ref 252), some (.int (Int32.ofInt 15)), some (.int (Int32.ofInt 13)), some (.int (Int32.ofInt 14)), some (.int (Int32.ofInt 1)), some (.int (Int32.ofInt 1)), some (.long (Int64.ofInt 0)), none, some (.int (Int32.ofInt 1)), some (.long (Int64.ofInt 0)), none]) (by rw [(by decide +kernel : (Int32.ofInt 0) + Int32.ofInt 1 = (Int32.ofInt 1))] <;> rfl) ?_
  refine x_goto (M := M_X7_addLimbs) (tgt := 31) dX7_addLimbs_84 (by decide) ?_
  refine x_iload (M := M_X7_addLimbs) dX7_addLimbs_31 rfl ?_
  refine x_iload (M := M_X7_addLimbs) dX7_addLimbs_33 rfl ?_
  refine x_icmp_ge (M := M_X7_addLimbs) (tgt := 87) dX7_addLimbs_35 (by decide) (fun _ => ?_) (fun q => absurd q (by decide +kernel))
  refine x_aload_n (M := M_X7_addLimbs) dX7_addLimbs_87 rfl ?_
  have o8696 := (f8694 252 _ (by decide) o8682)
  refine x_getf (M := M_X7_addLimbs) (ci := 10) (C := RX7) (T := TX7) (N := 5) (ty := tyX7) cl10 dX7_addLimbs_88 o8696 3 (by decide) t_550 (v := .ref 272) rfl ?_
  refine x_iload_n (M := M_X7_addLimbs) dX7_addLimbs_91 rfl ?_
  refine x_iload (M := M_X7_addLimbs) dX7_addLimbs_92 rfl ?_
  have o8697 := (f8694 272 _ (by decide) o8683)
  refine y_iast (M := M_X7_addLimbs) (k := 15) dX7_addLimbs_94 o8697 (vp_inD (by decide +kernel)) (by decide +kernel) (fun h8698 w8699 f8700 => ?_)
  have o8701 := (f8700 271 _ (by decide) w8695)
  exact x_vret (M := M_X7_addLimbs) dX7_addLimbs_95 rfl ⟨rfl, (fr_tr f8700 (by decide) (fr_tr f8694 (by decide) fr_rf)), ⟨o8701, w8699, trivial⟩⟩ (Nat.le_of_ble_eq_true rfl) (Nat.le_of_ble_eq_true rfl)
set_option maxRecDepth 10000 in
theorem q8733 {l : Launch} {E : EE} (hl : l.stackTraces = false) {h : HP} (o8717 : ob h 252 = some (.inr (10, [.ref 253, .ref 254, .ref 255, .ref 272, .ref 273]))) (o8718 : ob h 272 = some (.inl (0, 16, .inl (upd (fun _ => 0) 15 (Int32.ofInt 1))))) (o8719 : ob h 255 = some (.inl (5, 16, .inr (.inr (.inr (.inr (fun i => if i < 16 then some (255 + 1 + i) else none))))))) (o8720 : ob h 271 = some (.inl (0, 280, .inl (fun _ => 0)))) (o8726 : ob h 273 = some (.inl (0, 16, .inl (fun _ => 0)))) : en_C l E M_X7_trim 0 0 0 [.ref 252, .int (Int32.ofInt 15)] h (pF none [272, 273] h (fun h' => ob h' 272 = some (.inl (0, 16, .inl (fun _ => 0))) ∧ ob h' 273 = some (.inl (0, 16, .inl (fun _ => 0))) ∧ True)) := by
  refine en_mk m_X7_trim rfl hl (Nat.le_of_ble_eq_true rfl) ?_
  refine x_aload_n (M := M_X7_trim) dX7_trim_0 rfl ?_
  refine x_getf (M := M_X7_trim) (ci := 10) (C := RX7) (T := TX7) (N := 5) (ty := tyX7) cl10 dX7_trim_1 o8717 3 (by decide) t_550 (v := .ref 272) rfl ?_
  refine x_iload_n (M := M_X7_trim) dX7_trim_4 rfl ?_
  refine x_iald (M := M_X7_trim) dX7_trim_5 o8718 (vp_inD (by decide +kernel)) ?_
  refine x_top (M := M_X7_trim) (y := (Int32.ofInt 1)) (by decide +kernel) ?_
  refine x_if_le (M := M_X7_trim) (tgt := 40) dX7_trim_6 (by decide) (fun q => absurd q (by decide +kernel)) (fun _ => ?_)
  refine x_aload_n (M := M_X7_trim) dX7_trim_9 rfl ?_
  refine x_getf (M := M_X7_trim) (ci := 10) (C := RX7) (T := TX7) (N := 5) (ty := tyX7) cl10 dX7_trim_10 o8717 2 (by decide) t_549 (v := .ref 255) rfl ?_
  refine x_iload_n (M := M_X7_trim) dX7_trim_13 rfl ?_
  refine x_gald (M := M_X7_trim) (b := 271) dX7_trim_14 o8719 (vp_inD (by decide +kernel)) (by decide +kernel) ?_
  refine x_aload_n (M := M_X7_trim) dX7_trim_15 rfl ?_
  refine x_getf (M := M_X7_trim) (ci := 10) (C := RX7) (T := TX7) (N := 5) (ty := tyX7) cl10 dX7_trim_16 o8717 3 (by decide) t_550 (v := .ref 272) rfl ?_
  refine x_iload_n (M := M_X7_trim) dX7_trim_19 rfl ?_
  refine x_iald (M := M_X7_trim) dX7_trim_20 o8718 (vp_inD (by decide +kernel)) ?_
  refine x_top (M := M_X7_trim) (y := (Int32.ofInt 1)) (by decide +kernel) ?_
  refine x_iconst (M := M_X7_trim) dX7_trim_21 ?_
  refine x_isub (M := M_X7_trim) dX7_trim_22 ?_
  refine x_iald (M := M_X7_trim) dX7_trim_23 o8720 (vp_inD (by decide +kernel)) ?_
  refine x_top (M := M_X7_trim) (y := (Int32.ofInt 0)) (by decide +kernel) ?_
  refine x_if_ne (M := M_X7_trim) (tgt := 40) dX7_trim_24 (by decide) (fun q => absurd q (by decide +kernel)) (fun _ => ?_)
  refine x_aload_n (M := M_X7_trim) dX7_trim_27 rfl ?_
  refine x_getf (M := M_X7_trim) (ci := 10) (C := RX7) (T := TX7) (N := 5) (ty := tyX7) cl10 dX7_trim_28 o8717 3 (by decide) t_550 (v := .ref 272) rfl ?_
  refine x_iload_n (M := M_X7_trim) dX7_trim_31 rfl ?_
  refine x_dup2 (M := M_X7_trim) dX7_trim_32 rfl rfl ?_
  refine x_iald (M := M_X7_trim) dX7_trim_33 o8718 (vp_inD (by decide +kernel)) ?_
  refine x_top (M := M_X7_trim) (y := (Int32.ofInt 1)) (by decide +kernel) ?_
  refine x_iconst (M := M_X7_trim) dX7_trim_34 ?_
  refine x_isub (M := M_X7_trim) dX7_trim_35 ?_
  refine x_norm (M := M_X7_trim) (st' := [.int (Int32.ofInt 0), .int (Int32.ofInt 15), .ref 272]) rfl (vi_cons (by decide +kernel : ((Int32.ofInt 1) - (Int32.ofInt 1)) = (Int32.ofInt 0)) rfl) rfl rfl rfl ?_
  refine y_iast (M := M_X7_trim) (k := 15) dX7_trim_36 o8718 (vp_inD (by decide +kernel)) (by decide +kernel) (fun h8721 w8722 f8723 => ?_)
  have w8724 : ob h8721 272 = some (.inl (0, 16, .inl (fun _ => 0))) := by rw [w8722, up_up (k := 15), up_z (k := 15)]
  refine x_goto (M := M_X7_trim) (tgt := 0) dX7_trim_37 (by decide) ?_
  refine x_aload_n (M := M_X7_trim) dX7_trim_0 rfl ?_
  have o8725 := (f8723 252 _ (by decide) o8717)
  refine x_getf (M := M_X7_trim) (ci := 10) (C := RX7) (T := TX7) (N := 5) (ty := tyX7) cl10 dX7_trim_1 o8725 3 (by decide) t_550 (v := .ref 272) rfl ?_
  refine x_iload_n (M := M_X7_trim) dX7_trim_4 rfl ?_
  refine x_iald (M := M_X7_trim) dX7_trim_5 w8724 (vp_inD (by decide +kernel)) ?_
  refine x_top (M := M_X7_trim) (y := (Int32.ofInt 0)) (by decide +kernel) ?_
  refine x_if_le (M := M_X7_trim) (tgt := 40) dX7_trim_6 (by decide) (fun _ => ?_) (fun q => absurd q (by decide +kernel))
  refine x_aload_n (M := M_X7_trim) dX7_trim_40 rfl ?_
  refine x_getf (M := M_X7_trim) (ci := 10) (C := RX7) (T := TX7) (N := 5) (ty := tyX7) cl10 dX7_trim_41 o8725 3 (by decide) t_550 (v := .ref 272) rfl ?_
  refine x_iload_n (M := M_X7_trim) dX7_trim_44 rfl ?_
  refine x_iald (M := M_X7_trim) dX7_trim_45 w8724 (vp_inD (by decide +kernel)) ?_
  refine x_top (M := M_X7_trim) (y := (Int32.ofInt 0)) (by decide +kernel) ?_
  refine x_if_ne (M := M_X7_trim) (tgt := 56) dX7_trim_46 (by decide) (fun q => absurd q (by decide +kernel)) (fun _ => ?_)
  refine x_aload_n (M := M_X7_trim) dX7_trim_49 rfl ?_
  refine x_getf (M := M_X7_trim) (ci := 10) (C := RX7) (T := TX7) (N := 5) (ty := tyX7) cl10 dX7_trim_50 o8725 4 (by decide) t_551 (v := .ref 273) rfl ?_
  refine x_iload_n (M := M_X7_trim) dX7_trim_53 rfl ?_
  refine x_iconst (M := M_X7_trim) dX7_trim_54 ?_
  have o8727 := (f8723 273 _ (by decide) o8726)
  refine y_iast (M := M_X7_trim) (k := 15) dX7_trim_55 o8727 (vp_inD (by decide +kernel)) (by decide +kernel) (fun h8728 w8729 f8730 => ?_)
  have w8731 : ob h8728 273 = some (.inl (0, 16, .inl (fun _ => 0))) := by rw [w8729, up_z (k := 15)]
  have o8732 := (f8730 272 _ (by decide) w8724)
  exact x_vret (M := M_X7_trim) dX7_trim_56 rfl ⟨rfl, (fr_tr f8730 (by decide) (fr_tr f8723 (by decide) fr_rf)), ⟨o8732, w8731, trivial⟩⟩ (Nat.le_of_ble_eq_true rfl) (Nat.le_of_ble_eq_true rfl)
set_option maxRecDepth 10000 in
theorem q8744 {l : Launch} {E : EE} (hl : l.stackTraces = false) {h : HP} (o8680 : ob h 252 = some (.inr (10, [.ref 253, .ref 254, .ref 255, .ref 272, .ref 273]))) (o8681 : ob h 273 = some (.inl (0, 16, .inl (fun _ => 0)))) (o8703 : ob h 272 = some (.inl (0, 16, .inl (fun _ => 0)))) (o8704 : ob h 255 = some (.inl (5, 16, .inr (.inr (.inr (.inr (fun i => if i < 16 then some (255 + 1 + i) else none))))))) (o8705 : ob h 271 = some (.inl (0, 280, .inl (fun _ => 0)))) : en_C l E M_X7_addSigned 2 0 0 [.ref 252, .int (Int32.ofInt 15), .int (Int32.ofInt 13), .int (Int32.ofInt 14), .int (Int32.ofInt 1)] h (pF none [271, 272, 273] h (fun h' => ob h' 271 = some (.inl (0, 280, .inl (fun _ => 0))) ∧ ob h' 272 = some (.inl (0, 16, .inl (fun _ => 0))) ∧ ob h' 273 = some (.inl (0, 16, .inl (fun _ => 0))) ∧ True)) := by
  refine en_mk m_X7_addSigned rfl hl (Nat.le_of_ble_eq_true rfl) ?_
  refine x_aload_n (M := M_X7_addSigned) dX7_addSigned_0 rfl ?_
  refine x_getf (M := M_X7_addSigned) (ci := 10) (C := RX7) (T := TX7) (N := 5) (ty := tyX7) cl10 dX7_addSigned_1 o8680 4 (by decide) t_551 (v := .ref 273) rfl ?_
  refine x_iload_n (M := M_X7_addSigned) dX7_addSigned_4 rfl ?_
  refine x_iald (M := M_X7_addSigned) dX7_addSigned_5 o8681 (vp_inD (by decide +kernel)) ?_
  refine x_top (M := M_X7_addSigned) (y := (Int32.ofInt 0)) (by decide +kernel) ?_
  refine x_iload (M := M_X7_addSigned) dX7_addSigned_6 rfl ?_
  refine x_imul (M := M_X7_addSigned) dX7_addSigned_8 ?_
  refine x_top (M := M_X7_addSigned) (y := (Int32.ofInt 0)) (by decide +kernel) ?_
  refine x_istore (M := M_X7_addSigned) dX7_addSigned_9 (Nat.le_of_ble_eq_true rfl) rfl ?_
  refine x_aload_n (M := M_X7_addSigned) dX7_addSigned_11 rfl ?_
  refine x_getf (M := M_X7_addSigned) (ci := 10) (C := RX7) (T := TX7) (N := 5) (ty := tyX7) cl10 dX7_addSigned_12 o8680 4 (by decide) t_551 (v := .ref 273) rfl ?_
  refine x_iload_n (M := M_X7_addSigned) dX7_addSigned_15 rfl ?_
  refine x_iald (M := M_X7_addSigned) dX7_addSigned_16 o8681 (vp_inD (by decide +kernel)) ?_
  refine x_top (M := M_X7_addSigned) (y := (Int32.ofInt 0)) (by decide +kernel) ?_
  refine x_iload (M := M_X7_addSigned) dX7_addSigned_17 rfl ?_
  refine x_imul (M := M_X7_addSigned) dX7_addSigned_19 ?_
  refine x_if_lt (M := M_X7_addSigned) (tgt := 64) dX7_addSigned_20 (by decide) (fun q => absurd q (by decide +kernel)) (fun _ => ?_)
  refine x_aload_n (M := M_X7_addSigned) dX7_addSigned_23 rfl ?_
  refine x_getf (M := M_X7_addSigned) (ci := 10) (C := RX7) (T := TX7) (N := 5) (ty := tyX7) cl10 dX7_addSigned_24 o8680 4 (by decide) t_551 (v := .ref 273) rfl ?_
  refine x_iload_n (M := M_X7_addSigned) dX7_addSigned_27 rfl ?_
  refine x_iald (M := M_X7_addSigned) dX7_addSigned_28 o8681 (vp_inD (by decide +kernel)) ?_
  refine x_top (M := M_X7_addSigned) (y := (Int32.ofInt 0)) (by decide +kernel) ?_
  refine x_if_eq (M := M_X7_addSigned) (tgt := 41) dX7_addSigned_29 (by decide) (fun _ => ?_) (fun q => absurd q (by decide +kernel))
  refine x_iload (M := M_X7_addSigned) dX7_addSigned_41 rfl ?_
  refine x_istore (M := M_X7_addSigned) dX7_addSigned_43 (Nat.le_of_ble_eq_true rfl) rfl ?_
  refine x_aload_n (M := M_X7_addSigned) dX7_addSigned_45 rfl ?_
  refine x_iload_n (M := M_X7_addSigned) dX7_addSigned_46 rfl ?_
  refine x_iload_n (M := M_X7_addSigned) dX7_addSigned_47 rfl ?_
  refine x_iload_n (M := M_X7_addSigned) dX7_addSigned_48 rfl ?_
  refine x_iconst (M := M_X7_addSigned) dX7_addSigned_49 ?_
  refine y_callVR (M := M_X7_addSigned) (M' := M_X7_addLimbs) rfl rfl dX7_addSigned_50 m_X7_addLimbs t_2347 t_2349 s_152 (q8702 hl o8680 o8703 o8704 o8705) rfl rfl o8680 rfl (Nat.le_of_ble_eq_true rfl) (Nat.le_of_ble_eq_true rfl) (Nat.le_of_ble_eq_true rfl) (Nat.le_of_ble_eq_true rfl) (fun h8706 f8707 w8708 => ?_)
  obtain ⟨o8709, o8710, -⟩ := w8708
  refine x_aload_n (M := M_X7_addSigned) dX7_addSigned_53 rfl ?_
  have o8711 := (f8707 252 _ (by decide) o8680)
  refine x_getf (M := M_X7_addSigned) (ci := 10) (C := RX7) (T := TX7) (N := 5) (ty := tyX7) cl10 dX7_addSigned_54 o8711 4 (by decide) t_551 (v := .ref 273) rfl ?_
  refine x_iload_n (M := M_X7_addSigned) dX7_addSigned_57 rfl ?_
  refine x_iload (M := M_X7_addSigned) dX7_addSigned_58 rfl ?_
  have o8712 := (f8707 273 _ (by decide) o8681)
  refine y_iast (M := M_X7_addSigned) (k := 15) dX7_addSigned_60 o8712 (vp_inD (by decide +kernel)) (by decide +kernel) (fun h8713 w8714 f8715 => ?_)
  have w8716 : ob h8713 273 = some (.inl (0, 16, .inl (fun _ => 0))) := by rw [w8714, up_z (k := 15)]
  refine x_goto (M := M_X7_addSigned) (tgt := 112) dX7_addSigned_61 (by decide) ?_
  refine x_aload_n (M := M_X7_addSigned) dX7_addSigned_112 rfl ?_
  refine x_iload_n (M := M_X7_addSigned) dX7_addSigned_113 rfl ?_
  have o8734 := (f8715 252 _ (by decide) o8711)
  have o8735 := (f8715 272 _ (by decide) o8710)
  have o8736 := (f8715 255 _ (by decide) (f8707 255 _ (by decide) o8704))
  have o8737 := (f8715 271 _ (by decide) o8709)
  refine y_callVR (M := M_X7_addSigned) (M' := M_X7_trim) rfl rfl dX7_addSigned_114 m_X7_trim t_2339 t_2341 s_150 (q8733 hl o8734 o8735 o8736 o8737 w8716) rfl rfl o8734 rfl (Nat.le_of_ble_eq_true rfl) (Nat.le_of_ble_eq_true rfl) (Nat.le_of_ble_eq_true rfl) (Nat.le_of_ble_eq_true rfl) (fun h8738 f8739 w8740 => ?_)
  obtain ⟨o8741, o8742, -⟩ := w8740
  have o8743 := (f8739 271 _ (by decide) o8737)
  exact x_vret (M := M_X7_addSigned) dX7_addSigned_117 rfl ⟨rfl, (fr_tr f8739 (by decide) (fr_tr f8715 (by decide) (fr_tr f8707 (by decide) fr_rf))), ⟨o8743, o8741, o8742, trivial⟩⟩ (Nat.le_of_ble_eq_true rfl) (Nat.le_of_ble_eq_true rfl)
set_option maxRecDepth 10000 in
theorem q8777 {l : Launch} {E : EE} (hl : l.stackTraces = false) {h : HP} (o8755 : ob h 252 = some (.inr (10, [.ref 253, .ref 254, .ref 255, .ref 272, .ref 273]))) (o8756 : ob h 272 = some (.inl (0, 16, .inl (fun _ => 0)))) (o8757 : ob h 255 = some (.inl (5, 16, .inr (.inr (.inr (.inr (fun i => if i < 16 then some (255 + 1 + i) else none))))))) (o8758 : ob h 269 = some (.inl (0, 280, .inl (fun _ => 0)))) (o8764 : ob h 273 = some (.inl (0, 16, .inl (fun _ => 0)))) : en_C l E M_X7_multiply 2 0 0 [.ref 252, .int (Int32.ofInt 13), .int (Int32.ofInt 4), .int (Int32.ofInt 7)] h (pF none [272, 273] h (fun h' => ob h' 272 = some (.inl (0, 16, .inl (fun _ => 0))) ∧ ob h' 273 = some (.inl (0, 16, .inl (fun _ => 0))) ∧ True)) := by
  refine en_mk m_X7_multiply rfl hl (Nat.le_of_ble_eq_true rfl) ?_
  refine x_aload_n (M := M_X7_multiply) dX7_multiply_0 rfl ?_
  refine x_getf (M := M_X7_multiply) (ci := 10) (C := RX7) (T := TX7) (N := 5) (ty := tyX7) cl10 dX7_multiply_1 o8755 3 (by decide) t_550 (v := .ref 272) rfl ?_
  refine x_iload_n (M := M_X7_multiply) dX7_multiply_4 rfl ?_
  refine x_iald (M := M_X7_multiply) dX7_multiply_5 o8756 (vp_inD (by decide +kernel)) ?_
  refine x_top (M := M_X7_multiply) (y := (Int32.ofInt 0)) (by decide +kernel) ?_
  refine x_aload_n (M := M_X7_multiply) dX7_multiply_6 rfl ?_
  refine x_getf (M := M_X7_multiply) (ci := 10) (C := RX7) (T := TX7) (N := 5) (ty := tyX7) cl10 dX7_multiply_7 o8755 3 (by decide) t_550 (v := .ref 272) rfl ?_
  refine x_iload_n (M := M_X7_multiply) dX7_multiply_10 rfl ?_
  refine x_iald (M := M_X7_multiply) dX7_multiply_11 o8756 (vp_inD (by decide +kernel)) ?_
  refine x_top (M := M_X7_multiply) (y := (Int32.ofInt 0)) (by decide +kernel) ?_
  refine x_iadd (M := M_X7_multiply) dX7_multiply_12 ?_
  refine x_sipush (M := M_X7_multiply) dX7_multiply_13 ?_
  refine x_mmin (M := M_X7_multiply) dX7_multiply_16 t_2351 t_626 t_20 t_627 (Nat.le_of_ble_eq_true rfl) (Nat.le_of_ble_eq_true rfl) (Nat.le_of_ble_eq_true rfl) (Nat.le_of_ble_eq_true rfl) ?_
  refine x_top (M := M_X7_multiply) (y := (Int32.ofInt 0)) (by decide +kernel) ?_
  refine x_istore (M := M_X7_multiply) dX7_multiply_19 (Nat.le_of_ble_eq_true rfl) rfl ?_
  refine x_aload_n (M := M_X7_multiply) dX7_multiply_21 rfl ?_
  refine x_getf (M := M_X7_multiply) (ci := 10) (C := RX7) (T := TX7) (N := 5) (ty := tyX7) cl10 dX7_multiply_22 o8755 2 (by decide) t_549 (v := .ref 255) rfl ?_
  refine x_iload_n (M := M_X7_multiply) dX7_multiply_25 rfl ?_
  refine x_gald (M := M_X7_multiply) (b := 269) dX7_multiply_26 o8757 (vp_inD (by decide +kernel)) (by decide +kernel) ?_
  refine x_iconst (M := M_X7_multiply) dX7_multiply_27 ?_
  refine x_iload (M := M_X7_multiply) dX7_multiply_28 rfl ?_
  refine x_iconst (M := M_X7_multiply) dX7_multiply_30 ?_
  refine x_callSR (M := M_X7_multiply) (M' := M_J7_fill_fda19) rfl rfl dX7_multiply_31 m_J7_fill_fda19 t_2337 t_1522 (q8599 hl o8758) rfl rfl (Nat.le_of_ble_eq_true rfl) (Nat.le_of_ble_eq_true rfl) (Nat.le_of_ble_eq_true rfl) (Nat.le_of_ble_eq_true rfl) ?_
  refine x_iconst (M := M_X7_multiply) dX7_multiply_34 ?_
  refine x_istore (M := M_X7_multiply) dX7_multiply_35 (Nat.le_of_ble_eq_true rfl) rfl ?_
  refine x_iload (M := M_X7_multiply) dX7_multiply_37 rfl ?_
  refine x_aload_n (M := M_X7_multiply) dX7_multiply_39 rfl ?_
  refine x_getf (M := M_X7_multiply) (ci := 10) (C := RX7) (T := TX7) (N := 5) (ty := tyX7) cl10 dX7_multiply_40 o8755 3 (by decide) t_550 (v := .ref 272) rfl ?_
  refine x_iload_n (M := M_X7_multiply) dX7_multiply_43 rfl ?_
  refine x_iald (M := M_X7_multiply) dX7_multiply_44 o8756 (vp_inD (by decide +kernel)) ?_
  refine x_top (M := M_X7_multiply) (y := (Int32.ofInt 0)) (by decide +kernel) ?_
  refine x_icmp_ge (M := M_X7_multiply) (tgt := 161) dX7_multiply_45 (by decide) (fun _ => ?_) (fun q => absurd q (by decide +kernel))
  refine x_aload_n (M := M_X7_multiply) dX7_multiply_161 rfl ?_
  refine x_getf (M := M_X7_multiply) (ci := 10) (C := RX7) (T := TX7) (N := 5) (ty := tyX7) cl10 dX7_multiply_162 o8755 3 (by decide) t_550 (v := .ref 272) rfl ?_
  refine x_iload_n (M := M_X7_multiply) dX7_multiply_165 rfl ?_
  refine x_iload (M := M_X7_multiply) dX7_multiply_166 rfl ?_
  refine y_iast (M := M_X7_multiply) (k := 13) dX7_multiply_168 o8756 (vp_inD (by decide +kernel)) (by decide +kernel) (fun h8759 w8760 f8761 => ?_)
  have w8762 : ob h8759 272 = some (.inl (0, 16, .inl (fun _ => 0))) := by rw [w8760, up_z (k := 13)]
  refine x_aload_n (M := M_X7_multiply) dX7_multiply_169 rfl ?_
  have o8763 := (f8761 252 _ (by decide) o8755)
  refine x_getf (M := M_X7_multiply) (ci := 10) (C := RX7) (T := TX7) (N := 5) (ty := tyX7) cl10 dX7_multiply_170 o8763 4 (by decide) t_551 (v := .ref 273) rfl ?_
  refine x_iload_n (M := M_X7_multiply) dX7_multiply_173 rfl ?_
  refine x_aload_n (M := M_X7_multiply) dX7_multiply_174 rfl ?_
  refine x_getf (M := M_X7_multiply) (ci := 10) (C := RX7) (T := TX7) (N := 5) (ty := tyX7) cl10 dX7_multiply_175 o8763 4 (by decide) t_551 (v := .ref 273) rfl ?_
  refine x_iload_n (M := M_X7_multiply) dX7_multiply_178 rfl ?_
  have o8765 := (f8761 273 _ (by decide) o8764)
  refine x_iald (M := M_X7_multiply) dX7_multiply_179 o8765 (vp_inD (by decide +kernel)) ?_
  refine x_top (M := M_X7_multiply) (y := (Int32.ofInt 0)) (by decide +kernel) ?_
  refine x_aload_n (M := M_X7_multiply) dX7_multiply_180 rfl ?_
  refine x_getf (M := M_X7_multiply) (ci := 10) (C := RX7) (T := TX7) (N := 5) (ty := tyX7) cl10 dX7_multiply_181 o8763 4 (by decide) t_551 (v := .ref 273) rfl ?_
  refine x_iload_n (M := M_X7_multiply) dX7_multiply_184 rfl ?_
  refine x_iald (M := M_X7_multiply) dX7_multiply_185 o8765 (vp_inD (by decide +kernel)) ?_
  refine x_top (M := M_X7_multiply) (y := (Int32.ofInt 0)) (by decide +kernel) ?_
  refine x_imul (M := M_X7_multiply) dX7_multiply_186 ?_
  refine x_norm (M := M_X7_multiply) (st' := [.int (Int32.ofInt 0), .int (Int32.ofInt 13), .ref 273]) rfl (vi_cons (by decide +kernel : ((Int32.ofInt 0) * (Int32.ofInt 0)) = (Int32.ofInt 0)) rfl) rfl rfl rfl ?_
  refine y_iast (M := M_X7_multiply) (k := 13) dX7_multiply_187 o8765 (vp_inD (by decide +kernel)) (by decide +kernel) (fun h8766 w8767 f8768 => ?_)
  have w8769 : ob h8766 273 = some (.inl (0, 16, .inl (fun _ => 0))) := by rw [w8767, up_z (k := 13)]
  refine x_aload_n (M := M_X7_multiply) dX7_multiply_188 rfl ?_
  refine x_iload_n (M := M_X7_multiply) dX7_multiply_189 rfl ?_
  have o8770 := (f8768 252 _ (by decide) o8763)
  have o8771 := (f8768 272 _ (by decide) w8762)
  refine y_callVR (M := M_X7_multiply) (M' := M_X7_trim) rfl rfl dX7_multiply_190 m_X7_trim t_2339 t_2341 s_150 (q8619 hl o8770 o8771 w8769) rfl rfl o8770 rfl (Nat.le_of_ble_eq_true rfl) (Nat.le_of_ble_eq_true rfl) (Nat.le_of_ble_eq_true rfl) (Nat.le_of_ble_eq_true rfl) (fun h8772 f8773 w8774 => ?_)
  obtain ⟨o8775, -⟩ := w8774
  have o8776 := (f8773 272 _ (by decide) o8771)
  exact x_vret (M := M_X7_multiply) dX7_multiply_193 rfl ⟨rfl, (fr_tr f8773 (by decide) (fr_tr f8768 (by decide) (fr_tr f8761 (by decide) fr_rf))), ⟨o8776, o8775, trivial⟩⟩ (Nat.le_of_ble_eq_true rfl) (Nat.le_of_ble_eq_true rfl)
set_option maxRecDepth 10000 in
theorem q8808 {l : Launch} {E : EE} (hl : l.stackTraces = false) {h : HP} (o8786 : ob h 252 = some (.inr (10, [.ref 253, .ref 254, .ref 255, .ref 272, .ref 273]))) (o8787 : ob h 272 = some (.inl (0, 16, .inl (fun _ => 0)))) (o8788 : ob h 255 = some (.inl (5, 16, .inr (.inr (.inr (.inr (fun i => if i < 16 then some (255 + 1 + i) else none))))))) (o8789 : ob h 270 = some (.inl (0, 280, .inl (fun _ => 0)))) (o8795 : ob h 273 = some (.inl (0, 16, .inl (fun _ => 0)))) : en_C l E M_X7_multiply 2 0 0 [.ref 252, .int (Int32.ofInt 14), .int (Int32.ofInt 5), .int (Int32.ofInt 6)] h (pF none [272, 273] h (fun h' => ob h' 272 = some (.inl (0, 16, .inl (fun _ => 0))) ∧ ob h' 273 = some (.inl (0, 16, .inl (fun _ => 0))) ∧ True)) := by
  refine en_mk m_X7_multiply rfl hl (Nat.le_of_ble_eq_true rfl) ?_
  refine x_aload_n (M := M_X7_multiply) dX7_multiply_0 rfl ?_
  refine x_getf (M := M_X7_multiply) (ci := 10) (C := RX7) (T := TX7) (N := 5) (ty := tyX7) cl10 dX7_multiply_1 o8786 3 (by decide) t_550 (v := .ref 272) rfl ?_
  refine x_iload_n (M := M_X7_multiply) dX7_multiply_4 rfl ?_
  refine x_iald (M := M_X7_multiply) dX7_multiply_5 o8787 (vp_inD (by decide +kernel)) ?_
  refine x_top (M := M_X7_multiply) (y := (Int32.ofInt 0)) (by decide +kernel) ?_
  refine x_aload_n (M := M_X7_multiply) dX7_multiply_6 rfl ?_
  refine x_getf (M := M_X7_multiply) (ci := 10) (C := RX7) (T := TX7) (N := 5) (ty := tyX7) cl10 dX7_multiply_7 o8786 3 (by decide) t_550 (v := .ref 272) rfl ?_
  refine x_iload_n (M := M_X7_multiply) dX7_multiply_10 rfl ?_
  refine x_iald (M := M_X7_multiply) dX7_multiply_11 o8787 (vp_inD (by decide +kernel)) ?_
  refine x_top (M := M_X7_multiply) (y := (Int32.ofInt 0)) (by decide +kernel) ?_
  refine x_iadd (M := M_X7_multiply) dX7_multiply_12 ?_
  refine x_sipush (M := M_X7_multiply) dX7_multiply_13 ?_
  refine x_mmin (M := M_X7_multiply) dX7_multiply_16 t_2351 t_626 t_20 t_627 (Nat.le_of_ble_eq_true rfl) (Nat.le_of_ble_eq_true rfl) (Nat.le_of_ble_eq_true rfl) (Nat.le_of_ble_eq_true rfl) ?_
  refine x_top (M := M_X7_multiply) (y := (Int32.ofInt 0)) (by decide +kernel) ?_
  refine x_istore (M := M_X7_multiply) dX7_multiply_19 (Nat.le_of_ble_eq_true rfl) rfl ?_
  refine x_aload_n (M := M_X7_multiply) dX7_multiply_21 rfl ?_
  refine x_getf (M := M_X7_multiply) (ci := 10) (C := RX7) (T := TX7) (N := 5) (ty := tyX7) cl10 dX7_multiply_22 o8786 2 (by decide) t_549 (v := .ref 255) rfl ?_
  refine x_iload_n (M := M_X7_multiply) dX7_multiply_25 rfl ?_
  refine x_gald (M := M_X7_multiply) (b := 270) dX7_multiply_26 o8788 (vp_inD (by decide +kernel)) (by decide +kernel) ?_
  refine x_iconst (M := M_X7_multiply) dX7_multiply_27 ?_
  refine x_iload (M := M_X7_multiply) dX7_multiply_28 rfl ?_
  refine x_iconst (M := M_X7_multiply) dX7_multiply_30 ?_
  refine x_callSR (M := M_X7_multiply) (M' := M_J7_fill_fda19) rfl rfl dX7_multiply_31 m_J7_fill_fda19 t_2337 t_1522 (q8642 hl o8789) rfl rfl (Nat.le_of_ble_eq_true rfl) (Nat.le_of_ble_eq_true rfl) (Nat.le_of_ble_eq_true rfl) (Nat.le_of_ble_eq_true rfl) ?_
  refine x_iconst (M := M_X7_multiply) dX7_multiply_34 ?_
  refine x_istore (M := M_X7_multiply) dX7_multiply_35 (Nat.le_of_ble_eq_true rfl) rfl ?_
  refine x_iload (M := M_X7_multiply) dX7_multiply_37 rfl ?_
  refine x_aload_n (M := M_X7_multiply) dX7_multiply_39 rfl ?_
  refine x_getf (M := M_X7_multiply) (ci := 10) (C := RX7) (T := TX7) (N := 5) (ty := tyX7) cl10 dX7_multiply_40 o8786 3 (by decide) t_550 (v := .ref 272) rfl ?_
  refine x_iload_n (M := M_X7_multiply) dX7_multiply_43 rfl ?_
  refine x_iald (M := M_X7_multiply) dX7_multiply_44 o8787 (vp_inD (by decide +kernel)) ?_
  refine x_top (M := M_X7_multiply) (y := (Int32.ofInt 0)) (by decide +kernel) ?_
  refine x_icmp_ge (M := M_X7_multiply) (tgt := 161) dX7_multiply_45 (by decide) (fun _ => ?_) (fun q => absurd q (by decide +kernel))
  refine x_aload_n (M := M_X7_multiply) dX7_multiply_161 rfl ?_
  refine x_getf (M := M_X7_multiply) (ci := 10) (C := RX7) (T := TX7) (N := 5) (ty := tyX7) cl10 dX7_multiply_162 o8786 3 (by decide) t_550 (v := .ref 272) rfl ?_
  refine x_iload_n (M := M_X7_multiply) dX7_multiply_165 rfl ?_
  refine x_iload (M := M_X7_multiply) dX7_multiply_166 rfl ?_
  refine y_iast (M := M_X7_multiply) (k := 14) dX7_multiply_168 o8787 (vp_inD (by decide +kernel)) (by decide +kernel) (fun h8790 w8791 f8792 => ?_)
  have w8793 : ob h8790 272 = some (.inl (0, 16, .inl (fun _ => 0))) := by rw [w8791, up_z (k := 14)]
  refine x_aload_n (M := M_X7_multiply) dX7_multiply_169 rfl ?_
  have o8794 := (f8792 252 _ (by decide) o8786)
  refine x_getf (M := M_X7_multiply) (ci := 10) (C := RX7) (T := TX7) (N := 5) (ty := tyX7) cl10 dX7_multiply_170 o8794 4 (by decide) t_551 (v := .ref 273) rfl ?_
  refine x_iload_n (M := M_X7_multiply) dX7_multiply_173 rfl ?_
  refine x_aload_n (M := M_X7_multiply) dX7_multiply_174 rfl ?_
  refine x_getf (M := M_X7_multiply) (ci := 10) (C := RX7) (T := TX7) (N := 5) (ty := tyX7) cl10 dX7_multiply_175 o8794 4 (by decide) t_551 (v := .ref 273) rfl ?_
  refine x_iload_n (M := M_X7_multiply) dX7_multiply_178 rfl ?_
  have o8796 := (f8792 273 _ (by decide) o8795)
  refine x_iald (M := M_X7_multiply) dX7_multiply_179 o8796 (vp_inD (by decide +kernel)) ?_
  refine x_top (M := M_X7_multiply) (y := (Int32.ofInt 0)) (by decide +kernel) ?_
  refine x_aload_n (M := M_X7_multiply) dX7_multiply_180 rfl ?_
  refine x_getf (M := M_X7_multiply) (ci := 10) (C := RX7) (T := TX7) (N := 5) (ty := tyX7) cl10 dX7_multiply_181 o8794 4 (by decide) t_551 (v := .ref 273) rfl ?_
  refine x_iload_n (M := M_X7_multiply) dX7_multiply_184 rfl ?_
  refine x_iald (M := M_X7_multiply) dX7_multiply_185 o8796 (vp_inD (by decide +kernel)) ?_
  refine x_top (M := M_X7_multiply) (y := (Int32.ofInt 0)) (by decide +kernel) ?_
  refine x_imul (M := M_X7_multiply) dX7_multiply_186 ?_
  refine x_norm (M := M_X7_multiply) (st' := [.int (Int32.ofInt 0), .int (Int32.ofInt 14), .ref 273]) rfl (vi_cons (by decide +kernel : ((Int32.ofInt 0) * (Int32.ofInt 0)) = (Int32.ofInt 0)) rfl) rfl rfl rfl ?_
  refine y_iast (M := M_X7_multiply) (k := 14) dX7_multiply_187 o8796 (vp_inD (by decide +kernel)) (by decide +kernel) (fun h8797 w8798 f8799 => ?_)
  have w8800 : ob h8797 273 = some (.inl (0, 16, .inl (fun _ => 0))) := by rw [w8798, up_z (k := 14)]
  refine x_aload_n (M := M_X7_multiply) dX7_multiply_188 rfl ?_
  refine x_iload_n (M := M_X7_multiply) dX7_multiply_189 rfl ?_
  have o8801 := (f8799 252 _ (by decide) o8794)
  have o8802 := (f8799 272 _ (by decide) w8793)
  refine y_callVR (M := M_X7_multiply) (M' := M_X7_trim) rfl rfl dX7_multiply_190 m_X7_trim t_2339 t_2341 s_150 (q8662 hl o8801 o8802 w8800) rfl rfl o8801 rfl (Nat.le_of_ble_eq_true rfl) (Nat.le_of_ble_eq_true rfl) (Nat.le_of_ble_eq_true rfl) (Nat.le_of_ble_eq_true rfl) (fun h8803 f8804 w8805 => ?_)
  obtain ⟨o8806, -⟩ := w8805
  have o8807 := (f8804 272 _ (by decide) o8802)
  exact x_vret (M := M_X7_multiply) dX7_multiply_193 rfl ⟨rfl, (fr_tr f8804 (by decide) (fr_tr f8799 (by decide) (fr_tr f8792 (by decide) fr_rf))), ⟨o8807, o8806, trivial⟩⟩ (Nat.le_of_ble_eq_true rfl) (Nat.le_of_ble_eq_true rfl)
set_option maxRecDepth 10000 in
theorem q8833 {l : Launch} {E : EE} (hl : l.stackTraces = false) {h : HP} (o8819 : ob h 252 = some (.inr (10, [.ref 253, .ref 254, .ref 255, .ref 272, .ref 273]))) (o8820 : ob h 272 = some (.inl (0, 16, .inl (fun _ => 0)))) (o8821 : ob h 255 = some (.inl (5, 16, .inr (.inr (.inr (.inr (fun i => if i < 16 then some (255 + 1 + i) else none))))))) (o8822 : ob h 256 = some (.inl (0, 280, .inl (fun _ => 0)))) : en_C l E M_X7_addLimbs 1 0 0 [.ref 252, .int (Int32.ofInt 0), .int (Int32.ofInt 13), .int (Int32.ofInt 14), .int (Int32.ofInt 1)] h (pF none [256, 272] h (fun h' => ob h' 256 = some (.inl (0, 280, .inl (fun _ => 0))) ∧ ob h' 272 = some (.inl (0, 16, .inl (upd (fun _ => 0) 0 (Int32.ofInt 1)))) ∧ True)) := by
  refine en_mk m_X7_addLimbs rfl hl (Nat.le_of_ble_eq_true rfl) ?_
  refine x_aload_n (M := M_X7_addLimbs) dX7_addLimbs_0 rfl ?_
  refine x_getf (M := M_X7_addLimbs) (ci := 10) (C := RX7) (T := TX7) (N := 5) (ty := tyX7) cl10 dX7_addLimbs_1 o8819 3 (by decide) t_550 (v := .ref 272) rfl ?_
  refine x_iload_n (M := M_X7_addLimbs) dX7_addLimbs_4 rfl ?_
  refine x_iald (M := M_X7_addLimbs) dX7_addLimbs_5 o8820 (vp_inD (by decide +kernel)) ?_
  refine x_top (M := M_X7_addLimbs) (y := (Int32.ofInt 0)) (by decide +kernel) ?_
  refine x_aload_n (M := M_X7_addLimbs) dX7_addLimbs_6 rfl ?_
  refine x_getf (M := M_X7_addLimbs) (ci := 10) (C := RX7) (T := TX7) (N := 5) (ty := tyX7) cl10 dX7_addLimbs_7 o8819 3 (by decide) t_550 (v := .ref 272) rfl ?_
  refine x_iload_n (M := M_X7_addLimbs) dX7_addLimbs_10 rfl ?_
  refine x_iald (M := M_X7_addLimbs) dX7_addLimbs_11 o8820 (vp_inD (by decide +kernel)) ?_
  refine x_top (M := M_X7_addLimbs) (y := (Int32.ofInt 0)) (by decide +kernel) ?_
  refine x_mmax (M := M_X7_addLimbs) dX7_addLimbs_12 t_2336 t_1013 t_20 t_1014 (Nat.le_of_ble_eq_true rfl) (Nat.le_of_ble_eq_true rfl) (Nat.le_of_ble_eq_true rfl) (Nat.le_of_ble_eq_true rfl) ?_
  refine x_top (M := M_X7_addLimbs) (y := (Int32.ofInt 0)) (by decide +kernel) ?_
  refine x_iconst (M := M_X7_addLimbs) dX7_addLimbs_15 ?_
  refine x_iadd (M := M_X7_addLimbs) dX7_addLimbs_16 ?_
  refine x_sipush (M := M_X7_addLimbs) dX7_addLimbs_17 ?_
  refine x_mmin (M := M_X7_addLimbs) dX7_addLimbs_20 t_2351 t_626 t_20 t_627 (Nat.le_of_ble_eq_true rfl) (Nat.le_of_ble_eq_true rfl) (Nat.le_of_ble_eq_true rfl) (Nat.le_of_ble_eq_true rfl) ?_
  refine x_top (M := M_X7_addLimbs) (y := (Int32.ofInt 1)) (by decide +kernel) ?_
  refine x_istore (M := M_X7_addLimbs) dX7_addLimbs_23 (Nat.le_of_ble_eq_true rfl) rfl ?_
  refine x_lconst (M := M_X7_addLimbs) dX7_addLimbs_25 ?_
  refine x_topl (M := M_X7_addLimbs) (y := (Int64.ofInt 0)) (by decide +kernel) ?_
  refine x_lstore (M := M_X7_addLimbs) dX7_addLimbs_26 (Nat.le_of_ble_eq_true rfl) rfl ?_
  refine x_iconst (M := M_X7_addLimbs) dX7_addLimbs_28 ?_
  refine x_istore (M := M_X7_addLimbs) dX7_addLimbs_29 (Nat.le_of_ble_eq_true rfl) rfl ?_
  refine x_iload (M := M_X7_addLimbs) dX7_addLimbs_31 rfl ?_
  refine x_iload (M := M_X7_addLimbs) dX7_addLimbs_33 rfl ?_
  refine x_icmp_ge (M := M_X7_addLimbs) (tgt := 87) dX7_addLimbs_35 (by decide) (fun q => absurd q (by decide +kernel)) (fun _ => ?_)
  refine x_aload_n (M := M_X7_addLimbs) dX7_addLimbs_38 rfl ?_
  refine x_iload_n (M := M_X7_addLimbs) dX7_addLimbs_39 rfl ?_
  refine x_iload (M := M_X7_addLimbs) dX7_addLimbs_40 rfl ?_
  refine x_callVR (M := M_X7_addLimbs) (M' := M_X7_limbAt) rfl rfl dX7_addLimbs_42 m_X7_limbAt t_2352 t_2354 s_153 (q8686 hl o8819 o8820) rfl rfl o8819 rfl (Nat.le_of_ble_eq_true rfl) (Nat.le_of_ble_eq_true rfl) (Nat.le_of_ble_eq_true rfl) (Nat.le_of_ble_eq_true rfl) ?_
  refine x_iload (M := M_X7_addLimbs) dX7_addLimbs_45 rfl ?_
  refine x_i2l (M := M_X7_addLimbs) dX7_addLimbs_47 ?_
  refine x_aload_n (M := M_X7_addLimbs) dX7_addLimbs_48 rfl ?_
  refine x_iload_n (M := M_X7_addLimbs) dX7_addLimbs_49 rfl ?_
  refine x_iload (M := M_X7_addLimbs) dX7_addLimbs_50 rfl ?_
  refine x_callVR (M := M_X7_addLimbs) (M' := M_X7_limbAt) rfl rfl dX7_addLimbs_52 m_X7_limbAt t_2352 t_2354 s_153 (q8689 hl o8819 o8820) rfl rfl o8819 rfl (Nat.le_of_ble_eq_true rfl) (Nat.le_of_ble_eq_true rfl) (Nat.le_of_ble_eq_true rfl) (Nat.le_of_ble_eq_true rfl) ?_
  refine x_lmul (M := M_X7_addLimbs) dX7_addLimbs_55 ?_
  refine x_ladd (M := M_X7_addLimbs) dX7_addLimbs_56 ?_
  refine x_lload (M := M_X7_addLimbs) dX7_addLimbs_57 rfl ?_
  refine x_ladd (M := M_X7_addLimbs) dX7_addLimbs_59 ?_
  refine x_topl (M := M_X7_addLimbs) (y := (Int64.ofInt 0)) (by decide +kernel) ?_
  refine x_lstore (M := M_X7_addLimbs) dX7_addLimbs_60 (Nat.le_of_ble_eq_true rfl) rfl ?_
  refine x_aload_n (M := M_X7_addLimbs) dX7_addLimbs_62 rfl ?_
  refine x_getf (M := M_X7_addLimbs) (ci := 10) (C := RX7) (T := TX7) (N := 5) (ty := tyX7) cl10 dX7_addLimbs_63 o8819 2 (by decide) t_549 (v := .ref 255) rfl ?_
  refine x_iload_n (M := M_X7_addLimbs) dX7_addLimbs_66 rfl ?_
  refine x_gald (M := M_X7_addLimbs) (b := 256) dX7_addLimbs_67 o8821 (vp_inD (by decide +kernel)) (by decide +kernel) ?_
  refine x_iload (M := M_X7_addLimbs) dX7_addLimbs_68 rfl ?_
  refine x_lload (M := M_X7_addLimbs) dX7_addLimbs_70 rfl ?_
  refine x_l2i (M := M_X7_addLimbs) dX7_addLimbs_72 ?_
  refine x_norm (M := M_X7_addLimbs) (st' := [.int (Int32.ofInt 0), .int (Int32.ofInt 0), .ref 256]) rfl (vi_cons (by decide +kernel : ((Int64.ofInt 0).toInt32) = (Int32.ofInt 0)) rfl) rfl rfl rfl ?_
  refine y_iast (M := M_X7_addLimbs) (k := 0) dX7_addLimbs_73 o8822 (vp_inD (by decide +kernel)) (by decide +kernel) (fun h8823 w8824 f8825 => ?_)
  have w8826 : ob h8823 256 = some (.inl (0, 280, .inl (fun _ => 0))) := by rw [w8824, up_z (k := 0)]
  refine x_lload (M := M_X7_addLimbs) dX7_addLimbs_74 rfl ?_
  refine x_bipush (M := M_X7_addLimbs) dX7_addLimbs_76 ?_
  refine x_lshr (M := M_X7_addLimbs) dX7_addLimbs_78 ?_
  refine x_topl (M := M_X7_addLimbs) (y := (Int64.ofInt 0)) (by decide +kernel) ?_
  refine x_lstore (M := M_X7_addLimbs) dX7_addLimbs_79 (Nat.le_of_ble_eq_true rfl) rfl ?_
  refine x_lvs (M := M_X7_addLimbs) (lv' := [some (.ref 252), some (.int (Int32.ofInt 0)), some (.int (Int32.ofInt 13)), some (.int (Int32.ofInt 14)), some (.int (Int32.ofInt 1)), some (.int (Int32.ofInt 1)), some (.long (Int64.ofInt 0)), none, some (.int (Int32.ofInt 0)), some (.long (Int64.ofInt 0)), none]) rfl ?_
  refine x_iinc (M := M_X7_addLimbs) dX7_addLimbs_81 rfl (Nat.le_of_ble_eq_true rfl) rfl ?_
  refine x_lvs (M := M_X7_addLimbs) (lv' := [some (.ref 252), some (.int (Int32.ofInt 0)), some (.int (Int32.ofInt 13)), some (.int (Int32.ofInt 14)), some (.int (Int32.ofInt 1)), some (.int (Int32.ofInt 1)), some (.long (Int64.ofInt 0)), none, some (.int (Int32.ofInt 1)), some (.long (Int64.ofInt 0)), none]) (by rw [(by decide +kernel : (Int32.ofInt 0) + Int32.ofInt 1 = (Int32.ofInt 1))] <;> rfl) ?_
  refine x_goto (M := M_X7_addLimbs) (tgt := 31) dX7_addLimbs_84 (by decide) ?_
  refine x_iload (M := M_X7_addLimbs) dX7_addLimbs_31 rfl ?_
  refine x_iload (M := M_X7_addLimbs) dX7_addLimbs_33 rfl ?_
  refine x_icmp_ge (M := M_X7_addLimbs) (tgt := 87) dX7_addLimbs_35 (by decide) (fun _ => ?_) (fun q => absurd q (by decide +kernel))
  refine x_aload_n (M := M_X7_addLimbs) dX7_addLimbs_87 rfl ?_
  have o8827 := (f8825 252 _ (by decide) o8819)
  refine x_getf (M := M_X7_addLimbs) (ci := 10) (C := RX7) (T := TX7) (N := 5) (ty := tyX7) cl10 dX7_addLimbs_88 o8827 3 (by decide) t_550 (v := .ref 272) rfl ?_
  refine x_iload_n (M := M_X7_addLimbs) dX7_addLimbs_91 rfl ?_
  refine x_iload (M := M_X7_addLimbs) dX7_addLimbs_92 rfl ?_
  have o8828 := (f8825 272 _ (by decide) o8820)
  refine y_iast (M := M_X7_addLimbs) (k := 0) dX7_addLimbs_94 o8828 (vp_inD (by decide +kernel)) (by decide +kernel) (fun h8829 w8830 f8831 => ?_)
  have o8832 := (f8831 256 _ (by decide) w8826)
  exact x_vret (M := M_X7_addLimbs) dX7_addLimbs_95 rfl ⟨rfl, (fr_tr f8831 (by decide) (fr_tr f8825 (by decide) fr_rf)), ⟨o8832, w8830, trivial⟩⟩ (Nat.le_of_ble_eq_true rfl) (Nat.le_of_ble_eq_true rfl)
set_option maxRecDepth 10000 in
theorem q8864 {l : Launch} {E : EE} (hl : l.stackTraces = false) {h : HP} (o8848 : ob h 252 = some (.inr (10, [.ref 253, .ref 254, .ref 255, .ref 272, .ref 273]))) (o8849 : ob h 272 = some (.inl (0, 16, .inl (upd (fun _ => 0) 0 (Int32.ofInt 1))))) (o8850 : ob h 255 = some (.inl (5, 16, .inr (.inr (.inr (.inr (fun i => if i < 16 then some (255 + 1 + i) else none))))))) (o8851 : ob h 256 = some (.inl (0, 280, .inl (fun _ => 0)))) (o8857 : ob h 273 = some (.inl (0, 16, .inl (fun _ => 0)))) : en_C l E M_X7_trim 0 0 0 [.ref 252, .int (Int32.ofInt 0)] h (pF none [272, 273] h (fun h' => ob h' 272 = some (.inl (0, 16, .inl (fun _ => 0))) ∧ ob h' 273 = some (.inl (0, 16, .inl (fun _ => 0))) ∧ True)) := by
  refine en_mk m_X7_trim rfl hl (Nat.le_of_ble_eq_true rfl) ?_
  refine x_aload_n (M := M_X7_trim) dX7_trim_0 rfl ?_
  refine x_getf (M := M_X7_trim) (ci := 10) (C := RX7) (T := TX7) (N := 5) (ty := tyX7) cl10 dX7_trim_1 o8848 3 (by decide) t_550 (v := .ref 272) rfl ?_
  refine x_iload_n (M := M_X7_trim) dX7_trim_4 rfl ?_
  refine x_iald (M := M_X7_trim) dX7_trim_5 o8849 (vp_inD (by decide +kernel)) ?_
  refine x_top (M := M_X7_trim) (y := (Int32.ofInt 1)) (by decide +kernel) ?_
  refine x_if_le (M := M_X7_trim) (tgt := 40) dX7_trim_6 (by decide) (fun q => absurd q (by decide +kernel)) (fun _ => ?_)
  refine x_aload_n (M := M_X7_trim) dX7_trim_9 rfl ?_
  refine x_getf (M := M_X7_trim) (ci := 10) (C := RX7) (T := TX7) (N := 5) (ty := tyX7) cl10 dX7_trim_10 o8848 2 (by decide) t_549 (v := .ref 255) rfl ?_
  refine x_iload_n (M := M_X7_trim) dX7_trim_13 rfl ?_
  refine x_gald (M := M_X7_trim) (b := 256) dX7_trim_14 o8850 (vp_inD (by decide +kernel)) (by decide +kernel) ?_
  refine x_aload_n (M := M_X7_trim) dX7_trim_15 rfl ?_
  refine x_getf (M := M_X7_trim) (ci := 10) (C := RX7) (T := TX7) (N := 5) (ty := tyX7) cl10 dX7_trim_16 o8848 3 (by decide) t_550 (v := .ref 272) rfl ?_
  refine x_iload_n (M := M_X7_trim) dX7_trim_19 rfl ?_
  refine x_iald (M := M_X7_trim) dX7_trim_20 o8849 (vp_inD (by decide +kernel)) ?_
  refine x_top (M := M_X7_trim) (y := (Int32.ofInt 1)) (by decide +kernel) ?_
  refine x_iconst (M := M_X7_trim) dX7_trim_21 ?_
  refine x_isub (M := M_X7_trim) dX7_trim_22 ?_
  refine x_iald (M := M_X7_trim) dX7_trim_23 o8851 (vp_inD (by decide +kernel)) ?_
  refine x_top (M := M_X7_trim) (y := (Int32.ofInt 0)) (by decide +kernel) ?_
  refine x_if_ne (M := M_X7_trim) (tgt := 40) dX7_trim_24 (by decide) (fun q => absurd q (by decide +kernel)) (fun _ => ?_)
  refine x_aload_n (M := M_X7_trim) dX7_trim_27 rfl ?_
  refine x_getf (M := M_X7_trim) (ci := 10) (C := RX7) (T := TX7) (N := 5) (ty := tyX7) cl10 dX7_trim_28 o8848 3 (by decide) t_550 (v := .ref 272) rfl ?_
  refine x_iload_n (M := M_X7_trim) dX7_trim_31 rfl ?_
  refine x_dup2 (M := M_X7_trim) dX7_trim_32 rfl rfl ?_
  refine x_iald (M := M_X7_trim) dX7_trim_33 o8849 (vp_inD (by decide +kernel)) ?_
  refine x_top (M := M_X7_trim) (y := (Int32.ofInt 1)) (by decide +kernel) ?_
  refine x_iconst (M := M_X7_trim) dX7_trim_34 ?_
  refine x_isub (M := M_X7_trim) dX7_trim_35 ?_
  refine x_norm (M := M_X7_trim) (st' := [.int (Int32.ofInt 0), .int (Int32.ofInt 0), .ref 272]) rfl (vi_cons (by decide +kernel : ((Int32.ofInt 1) - (Int32.ofInt 1)) = (Int32.ofInt 0)) rfl) rfl rfl rfl ?_
  refine y_iast (M := M_X7_trim) (k := 0) dX7_trim_36 o8849 (vp_inD (by decide +kernel)) (by decide +kernel) (fun h8852 w8853 f8854 => ?_)
  have w8855 : ob h8852 272 = some (.inl (0, 16, .inl (fun _ => 0))) := by rw [w8853, up_up (k := 0), up_z (k := 0)]
  refine x_goto (M := M_X7_trim) (tgt := 0) dX7_trim_37 (by decide) ?_
  refine x_aload_n (M := M_X7_trim) dX7_trim_0 rfl ?_
  have o8856 := (f8854 252 _ (by decide) o8848)
  refine x_getf (M := M_X7_trim) (ci := 10) (C := RX7) (T := TX7) (N := 5) (ty := tyX7) cl10 dX7_trim_1 o8856 3 (by decide) t_550 (v := .ref 272) rfl ?_
  refine x_iload_n (M := M_X7_trim) dX7_trim_4 rfl ?_
  refine x_iald (M := M_X7_trim) dX7_trim_5 w8855 (vp_inD (by decide +kernel)) ?_
  refine x_top (M := M_X7_trim) (y := (Int32.ofInt 0)) (by decide +kernel) ?_
  refine x_if_le (M := M_X7_trim) (tgt := 40) dX7_trim_6 (by decide) (fun _ => ?_) (fun q => absurd q (by decide +kernel))
  refine x_aload_n (M := M_X7_trim) dX7_trim_40 rfl ?_
  refine x_getf (M := M_X7_trim) (ci := 10) (C := RX7) (T := TX7) (N := 5) (ty := tyX7) cl10 dX7_trim_41 o8856 3 (by decide) t_550 (v := .ref 272) rfl ?_
  refine x_iload_n (M := M_X7_trim) dX7_trim_44 rfl ?_
  refine x_iald (M := M_X7_trim) dX7_trim_45 w8855 (vp_inD (by decide +kernel)) ?_
  refine x_top (M := M_X7_trim) (y := (Int32.ofInt 0)) (by decide +kernel) ?_
  refine x_if_ne (M := M_X7_trim) (tgt := 56) dX7_trim_46 (by decide) (fun q => absurd q (by decide +kernel)) (fun _ => ?_)
  refine x_aload_n (M := M_X7_trim) dX7_trim_49 rfl ?_
  refine x_getf (M := M_X7_trim) (ci := 10) (C := RX7) (T := TX7) (N := 5) (ty := tyX7) cl10 dX7_trim_50 o8856 4 (by decide) t_551 (v := .ref 273) rfl ?_
  refine x_iload_n (M := M_X7_trim) dX7_trim_53 rfl ?_
  refine x_iconst (M := M_X7_trim) dX7_trim_54 ?_
  have o8858 := (f8854 273 _ (by decide) o8857)
  refine y_iast (M := M_X7_trim) (k := 0) dX7_trim_55 o8858 (vp_inD (by decide +kernel)) (by decide +kernel) (fun h8859 w8860 f8861 => ?_)
  have w8862 : ob h8859 273 = some (.inl (0, 16, .inl (fun _ => 0))) := by rw [w8860, up_z (k := 0)]
  have o8863 := (f8861 272 _ (by decide) w8855)
  exact x_vret (M := M_X7_trim) dX7_trim_56 rfl ⟨rfl, (fr_tr f8861 (by decide) (fr_tr f8854 (by decide) fr_rf)), ⟨o8863, w8862, trivial⟩⟩ (Nat.le_of_ble_eq_true rfl) (Nat.le_of_ble_eq_true rfl)
set_option maxRecDepth 10000 in
theorem q8875 {l : Launch} {E : EE} (hl : l.stackTraces = false) {h : HP} (o8817 : ob h 252 = some (.inr (10, [.ref 253, .ref 254, .ref 255, .ref 272, .ref 273]))) (o8818 : ob h 273 = some (.inl (0, 16, .inl (fun _ => 0)))) (o8834 : ob h 272 = some (.inl (0, 16, .inl (fun _ => 0)))) (o8835 : ob h 255 = some (.inl (5, 16, .inr (.inr (.inr (.inr (fun i => if i < 16 then some (255 + 1 + i) else none))))))) (o8836 : ob h 256 = some (.inl (0, 280, .inl (fun _ => 0)))) : en_C l E M_X7_addSigned 2 0 0 [.ref 252, .int (Int32.ofInt 0), .int (Int32.ofInt 13), .int (Int32.ofInt 14), .int (Int32.ofInt (-1))] h (pF none [256, 272, 273] h (fun h' => ob h' 256 = some (.inl (0, 280, .inl (fun _ => 0))) ∧ ob h' 272 = some (.inl (0, 16, .inl (fun _ => 0))) ∧ ob h' 273 = some (.inl (0, 16, .inl (fun _ => 0))) ∧ True)) := by
  refine en_mk m_X7_addSigned rfl hl (Nat.le_of_ble_eq_true rfl) ?_
  refine x_aload_n (M := M_X7_addSigned) dX7_addSigned_0 rfl ?_
  refine x_getf (M := M_X7_addSigned) (ci := 10) (C := RX7) (T := TX7) (N := 5) (ty := tyX7) cl10 dX7_addSigned_1 o8817 4 (by decide) t_551 (v := .ref 273) rfl ?_
  refine x_iload_n (M := M_X7_addSigned) dX7_addSigned_4 rfl ?_
  refine x_iald (M := M_X7_addSigned) dX7_addSigned_5 o8818 (vp_inD (by decide +kernel)) ?_
  refine x_top (M := M_X7_addSigned) (y := (Int32.ofInt 0)) (by decide +kernel) ?_
  refine x_iload (M := M_X7_addSigned) dX7_addSigned_6 rfl ?_
  refine x_imul (M := M_X7_addSigned) dX7_addSigned_8 ?_
  refine x_top (M := M_X7_addSigned) (y := (Int32.ofInt 0)) (by decide +kernel) ?_
  refine x_istore (M := M_X7_addSigned) dX7_addSigned_9 (Nat.le_of_ble_eq_true rfl) rfl ?_
  refine x_aload_n (M := M_X7_addSigned) dX7_addSigned_11 rfl ?_
  refine x_getf (M := M_X7_addSigned) (ci := 10) (C := RX7) (T := TX7) (N := 5) (ty := tyX7) cl10 dX7_addSigned_12 o8817 4 (by decide) t_551 (v := .ref 273) rfl ?_
  refine x_iload_n (M := M_X7_addSigned) dX7_addSigned_15 rfl ?_
  refine x_iald (M := M_X7_addSigned) dX7_addSigned_16 o8818 (vp_inD (by decide +kernel)) ?_
  refine x_top (M := M_X7_addSigned) (y := (Int32.ofInt 0)) (by decide +kernel) ?_
  refine x_iload (M := M_X7_addSigned) dX7_addSigned_17 rfl ?_
  refine x_imul (M := M_X7_addSigned) dX7_addSigned_19 ?_
  refine x_if_lt (M := M_X7_addSigned) (tgt := 64) dX7_addSigned_20 (by decide) (fun q => absurd q (by decide +kernel)) (fun _ => ?_)
  refine x_aload_n (M := M_X7_addSigned) dX7_addSigned_23 rfl ?_
  refine x_getf (M := M_X7_addSigned) (ci := 10) (C := RX7) (T := TX7) (N := 5) (ty := tyX7) cl10 dX7_addSigned_24 o8817 4 (by decide) t_551 (v := .ref 273) rfl ?_
  refine x_iload_n (M := M_X7_addSigned) dX7_addSigned_27 rfl ?_
  refine x_iald (M := M_X7_addSigned) dX7_addSigned_28 o8818 (vp_inD (by decide +kernel)) ?_
  refine x_top (M := M_X7_addSigned) (y := (Int32.ofInt 0)) (by decide +kernel) ?_
  refine x_if_eq (M := M_X7_addSigned) (tgt := 41) dX7_addSigned_29 (by decide) (fun _ => ?_) (fun q => absurd q (by decide +kernel))
  refine x_iload (M := M_X7_addSigned) dX7_addSigned_41 rfl ?_
  refine x_istore (M := M_X7_addSigned) dX7_addSigned_43 (Nat.le_of_ble_eq_true rfl) rfl ?_
  refine x_aload_n (M := M_X7_addSigned) dX7_addSigned_45 rfl ?_
  refine x_iload_n (M := M_X7_addSigned) dX7_addSigned_46 rfl ?_
  refine x_iload_n (M := M_X7_addSigned) dX7_addSigned_47 rfl ?_
  refine x_iload_n (M := M_X7_addSigned) dX7_addSigned_48 rfl ?_
  refine x_iconst (M := M_X7_addSigned) dX7_addSigned_49 ?_
  refine y_callVR (M := M_X7_addSigned) (M' := M_X7_addLimbs) rfl rfl dX7_addSigned_50 m_X7_addLimbs t_2347 t_2349 s_152 (q8833 hl o8817 o8834 o8835 o8836) rfl rfl o8817 rfl (Nat.le_of_ble_eq_true rfl) (Nat.le_of_ble_eq_true rfl) (Nat.le_of_ble_eq_true rfl) (Nat.le_of_ble_eq_true rfl) (fun h8837 f8838 w8839 => ?_)
  obtain ⟨o8840, o8841, -⟩ := w8839
  refine x_aload_n (M := M_X7_addSigned) dX7_addSigned_53 rfl ?_
  have o8842 := (f8838 252 _ (by decide) o8817)
  refine x_getf (M := M_X7_addSigned) (ci := 10) (C := RX7) (T := TX7) (N := 5) (ty := tyX7) cl10 dX7_addSigned_54 o8842 4 (by decide) t_551 (v := .ref 273) rfl ?_
  refine x_iload_n (M := M_X7_addSigned) dX7_addSigned_57 rfl ?_
  refine x_iload (M := M_X7_addSigned) dX7_addSigned_58 rfl ?_
  have o8843 := (f8838 273 _ (by decide) o8818)
  refine y_iast (M := M_X7_addSigned) (k := 0) dX7_addSigned_60 o8843 (vp_inD (by decide +kernel)) (by decide +kernel) (fun h8844 w8845 f8846 => ?_)
  have w8847 : ob h8844 273 = some (.inl (0, 16, .inl (fun _ => 0))) := by rw [w8845, up_z (k := 0)]
  refine x_goto (M := M_X7_addSigned) (tgt := 112) dX7_addSigned_61 (by decide) ?_
  refine x_aload_n (M := M_X7_addSigned) dX7_addSigned_112 rfl ?_
  refine x_iload_n (M := M_X7_addSigned) dX7_addSigned_113 rfl ?_
  have o8865 := (f8846 252 _ (by decide) o8842)
  have o8866 := (f8846 272 _ (by decide) o8841)
  have o8867 := (f8846 255 _ (by decide) (f8838 255 _ (by decide) o8835))
  have o8868 := (f8846 256 _ (by decide) o8840)
  refine y_callVR (M := M_X7_addSigned) (M' := M_X7_trim) rfl rfl dX7_addSigned_114 m_X7_trim t_2339 t_2341 s_150 (q8864 hl o8865 o8866 o8867 o8868 w8847) rfl rfl o8865 rfl (Nat.le_of_ble_eq_true rfl) (Nat.le_of_ble_eq_true rfl) (Nat.le_of_ble_eq_true rfl) (Nat.le_of_ble_eq_true rfl) (fun h8869 f8870 w8871 => ?_)
  obtain ⟨o8872, o8873, -⟩ := w8871
  have o8874 := (f8870 256 _ (by decide) o8868)
  exact x_vret (M := M_X7_addSigned) dX7_addSigned_117 rfl ⟨rfl, (fr_tr f8870 (by decide) (fr_tr f8846 (by decide) (fr_tr f8838 (by decide) fr_rf))), ⟨o8874, o8872, o8873, trivial⟩⟩ (Nat.le_of_ble_eq_true rfl) (Nat.le_of_ble_eq_true rfl)
set_option maxRecDepth 10000 in
theorem q8890 {l : Launch} {E : EE} (hl : l.stackTraces = false) {h : HP} (o8889 : ob h 264 = some (.inl (0, 280, .inl (fun _ => 0)))) : en_C l E M_J7_fill_fda19 1 0 0 [.ref 264, .int (Int32.ofInt 0), .int (Int32.ofInt 0), .int (Int32.ofInt 0)] h (pR none h) := by
  refine en_mk m_J7_fill_fda19 rfl hl (Nat.le_of_ble_eq_true rfl) ?_
  refine x_aload_n (M := M_J7_fill_fda19) dJ7_fill_fda19_0 rfl ?_
  refine x_alen (M := M_J7_fill_fda19) dJ7_fill_fda19_1 o8889 (by decide) ?_
  refine x_iload_n (M := M_J7_fill_fda19) dJ7_fill_fda19_2 rfl ?_
  refine x_iload_n (M := M_J7_fill_fda19) dJ7_fill_fda19_3 rfl ?_
  refine x_norm (M := M_J7_fill_fda19) (st' := [.int (Int32.ofInt 0), .int (Int32.ofInt 0), .int (Int32.ofInt 280)]) rfl (v_cons (v_cons (vi_cons (by decide +kernel : (Int32.ofNat 280) = (Int32.ofInt 280)) rfl))) rfl rfl rfl ?_
  refine x_callSR (M := M_J7_fill_fda19) (M' := M_J7_rangeCheck_23922) rfl rfl dJ7_fill_fda19_4 m_J7_rangeCheck_23922 t_1524 t_1525 (q7214 hl) rfl rfl (Nat.le_of_ble_eq_true rfl) (Nat.le_of_ble_eq_true rfl) (Nat.le_of_ble_eq_true rfl) (Nat.le_of_ble_eq_true rfl) ?_
  refine x_iload_n (M := M_J7_fill_fda19) dJ7_fill_fda19_7 rfl ?_
  refine x_istore (M := M_J7_fill_fda19) dJ7_fill_fda19_8 (Nat.le_of_ble_eq_true rfl) rfl ?_
  refine x_iload (M := M_J7_fill_fda19) dJ7_fill_fda19_10 rfl ?_
  refine x_iload_n (M := M_J7_fill_fda19) dJ7_fill_fda19_12 rfl ?_
  refine x_icmp_ge (M := M_J7_fill_fda19) (tgt := 27) dJ7_fill_fda19_13 (by decide) (fun _ => ?_) (fun q => absurd q (by decide +kernel))
  exact x_vret (M := M_J7_fill_fda19) dJ7_fill_fda19_27 rfl ⟨rfl, rfl⟩ (Nat.le_of_ble_eq_true rfl) (Nat.le_of_ble_eq_true rfl)
set_option maxRecDepth 10000 in
theorem q8910 {l : Launch} {E : EE} (hl : l.stackTraces = false) {h : HP} (o8903 : ob h 252 = some (.inr (10, [.ref 253, .ref 254, .ref 255, .ref 272, .ref 273]))) (o8904 : ob h 272 = some (.inl (0, 16, .inl (fun _ => 0)))) (o8905 : ob h 273 = some (.inl (0, 16, .inl (fun _ => 0)))) : en_C l E M_X7_trim 0 0 0 [.ref 252, .int (Int32.ofInt 8)] h (pF none [273] h (fun h' => ob h' 273 = some (.inl (0, 16, .inl (fun _ => 0))) ∧ True)) := by
  refine en_mk m_X7_trim rfl hl (Nat.le_of_ble_eq_true rfl) ?_
  refine x_aload_n (M := M_X7_trim) dX7_trim_0 rfl ?_
  refine x_getf (M := M_X7_trim) (ci := 10) (C := RX7) (T := TX7) (N := 5) (ty := tyX7) cl10 dX7_trim_1 o8903 3 (by decide) t_550 (v := .ref 272) rfl ?_
  refine x_iload_n (M := M_X7_trim) dX7_trim_4 rfl ?_
  refine x_iald (M := M_X7_trim) dX7_trim_5 o8904 (vp_inD (by decide +kernel)) ?_
  refine x_top (M := M_X7_trim) (y := (Int32.ofInt 0)) (by decide +kernel) ?_
  refine x_if_le (M := M_X7_trim) (tgt := 40) dX7_trim_6 (by decide) (fun _ => ?_) (fun q => absurd q (by decide +kernel))
  refine x_aload_n (M := M_X7_trim) dX7_trim_40 rfl ?_
  refine x_getf (M := M_X7_trim) (ci := 10) (C := RX7) (T := TX7) (N := 5) (ty := tyX7) cl10 dX7_trim_41 o8903 3 (by decide) t_550 (v := .ref 272) rfl ?_
  refine x_iload_n (M := M_X7_trim) dX7_trim_44 rfl ?_
  refine x_iald (M := M_X7_trim) dX7_trim_45 o8904 (vp_inD (by decide +kernel)) ?_
  refine x_top (M := M_X7_trim) (y := (Int32.ofInt 0)) (by decide +kernel) ?_
  refine x_if_ne (M := M_X7_trim) (tgt := 56) dX7_trim_46 (by decide) (fun q => absurd q (by decide +kernel)) (fun _ => ?_)
  refine x_aload_n (M := M_X7_trim) dX7_trim_49 rfl ?_
  refine x_getf (M := M_X7_trim) (ci := 10) (C := RX7) (T := TX7) (N := 5) (ty := tyX7) cl10 dX7_trim_50 o8903 4 (by decide) t_551 (v := .ref 273) rfl ?_
  refine x_iload_n (M := M_X7_trim) dX7_trim_53 rfl ?_
  refine x_iconst (M := M_X7_trim) dX7_trim_54 ?_
  refine y_iast (M := M_X7_trim) (k := 8) dX7_trim_55 o8905 (vp_inD (by decide +kernel)) (by decide +kernel) (fun h8906 w8907 f8908 => ?_)
  have w8909 : ob h8906 273 = some (.inl (0, 16, .inl (fun _ => 0))) := by rw [w8907, up_z (k := 8)]
  exact x_vret (M := M_X7_trim) dX7_trim_56 rfl ⟨rfl, (fr_tr f8908 (by decide) fr_rf), ⟨w8909, trivial⟩⟩ (Nat.le_of_ble_eq_true rfl) (Nat.le_of_ble_eq_true rfl)
set_option maxRecDepth 10000 in
theorem q8918 {l : Launch} {E : EE} (hl : l.stackTraces = false) {h : HP} (o8886 : ob h 252 = some (.inr (10, [.ref 253, .ref 254, .ref 255, .ref 272, .ref 273]))) (o8887 : ob h 272 = some (.inl (0, 16, .inl (fun _ => 0)))) (o8888 : ob h 255 = some (.inl (5, 16, .inr (.inr (.inr (.inr (fun i => if i < 16 then some (255 + 1 + i) else none))))))) (o8891 : ob h 264 = some (.inl (0, 280, .inl (fun _ => 0)))) (o8897 : ob h 273 = some (.inl (0, 16, .inl (fun _ => 0)))) : en_C l E M_X7_multiply 2 0 0 [.ref 252, .int (Int32.ofInt 8), .int (Int32.ofInt 15), .int (Int32.ofInt 0)] h (pF none [272, 273] h (fun h' => ob h' 272 = some (.inl (0, 16, .inl (fun _ => 0))) ∧ ob h' 273 = some (.inl (0, 16, .inl (fun _ => 0))) ∧ True)) := by
  refine en_mk m_X7_multiply rfl hl (Nat.le_of_ble_eq_true rfl) ?_
  refine x_aload_n (M := M_X7_multiply) dX7_multiply_0 rfl ?_
  refine x_getf (M := M_X7_multiply) (ci := 10) (C := RX7) (T := TX7) (N := 5) (ty := tyX7) cl10 dX7_multiply_1 o8886 3 (by decide) t_550 (v := .ref 272) rfl ?_
  refine x_iload_n (M := M_X7_multiply) dX7_multiply_4 rfl ?_
  refine x_iald (M := M_X7_multiply) dX7_multiply_5 o8887 (vp_inD (by decide +kernel)) ?_
  refine x_top (M := M_X7_multiply) (y := (Int32.ofInt 0)) (by decide +kernel) ?_
  refine x_aload_n (M := M_X7_multiply) dX7_multiply_6 rfl ?_
  refine x_getf (M := M_X7_multiply) (ci := 10) (C := RX7) (T := TX7) (N := 5) (ty := tyX7) cl10 dX7_multiply_7 o8886 3 (by decide) t_550 (v := .ref 272) rfl ?_
  refine x_iload_n (M := M_X7_multiply) dX7_multiply_10 rfl ?_
  refine x_iald (M := M_X7_multiply) dX7_multiply_11 o8887 (vp_inD (by decide +kernel)) ?_
  refine x_top (M := M_X7_multiply) (y := (Int32.ofInt 0)) (by decide +kernel) ?_
  refine x_iadd (M := M_X7_multiply) dX7_multiply_12 ?_
  refine x_sipush (M := M_X7_multiply) dX7_multiply_13 ?_
  refine x_mmin (M := M_X7_multiply) dX7_multiply_16 t_2351 t_626 t_20 t_627 (Nat.le_of_ble_eq_true rfl) (Nat.le_of_ble_eq_true rfl) (Nat.le_of_ble_eq_true rfl) (Nat.le_of_ble_eq_true rfl) ?_
  refine x_top (M := M_X7_multiply) (y := (Int32.ofInt 0)) (by decide +kernel) ?_
  refine x_istore (M := M_X7_multiply) dX7_multiply_19 (Nat.le_of_ble_eq_true rfl) rfl ?_
  refine x_aload_n (M := M_X7_multiply) dX7_multiply_21 rfl ?_
  refine x_getf (M := M_X7_multiply) (ci := 10) (C := RX7) (T := TX7) (N := 5) (ty := tyX7) cl10 dX7_multiply_22 o8886 2 (by decide) t_549 (v := .ref 255) rfl ?_
  refine x_iload_n (M := M_X7_multiply) dX7_multiply_25 rfl ?_
  refine x_gald (M := M_X7_multiply) (b := 264) dX7_multiply_26 o8888 (vp_inD (by decide +kernel)) (by decide +kernel) ?_
  refine x_iconst (M := M_X7_multiply) dX7_multiply_27 ?_
  refine x_iload (M := M_X7_multiply) dX7_multiply_28 rfl ?_
  refine x_iconst (M := M_X7_multiply) dX7_multiply_30 ?_
  refine x_callSR (M := M_X7_multiply) (M' := M_J7_fill_fda19) rfl rfl dX7_multiply_31 m_J7_fill_fda19 t_2337 t_1522 (q8890 hl o8891) rfl rfl (Nat.le_of_ble_eq_true rfl) (Nat.le_of_ble_eq_true rfl) (Nat.le_of_ble_eq_true rfl) (Nat.le_of_ble_eq_true rfl) ?_
  refine x_iconst (M := M_X7_multiply) dX7_multiply_34 ?_
  refine x_istore (M := M_X7_multiply) dX7_multiply_35 (Nat.le_of_ble_eq_true rfl) rfl ?_
  refine x_iload (M := M_X7_multiply) dX7_multiply_37 rfl ?_
  refine x_aload_n (M := M_X7_multiply) dX7_multiply_39 rfl ?_
  refine x_getf (M := M_X7_multiply) (ci := 10) (C := RX7) (T := TX7) (N := 5) (ty := tyX7) cl10 dX7_multiply_40 o8886 3 (by decide) t_550 (v := .ref 272) rfl ?_
  refine x_iload_n (M := M_X7_multiply) dX7_multiply_43 rfl ?_
  refine x_iald (M := M_X7_multiply) dX7_multiply_44 o8887 (vp_inD (by decide +kernel)) ?_
  refine x_top (M := M_X7_multiply) (y := (Int32.ofInt 0)) (by decide +kernel) ?_
  refine x_icmp_ge (M := M_X7_multiply) (tgt := 161) dX7_multiply_45 (by decide) (fun _ => ?_) (fun q => absurd q (by decide +kernel))
  refine x_aload_n (M := M_X7_multiply) dX7_multiply_161 rfl ?_
  refine x_getf (M := M_X7_multiply) (ci := 10) (C := RX7) (T := TX7) (N := 5) (ty := tyX7) cl10 dX7_multiply_162 o8886 3 (by decide) t_550 (v := .ref 272) rfl ?_
  refine x_iload_n (M := M_X7_multiply) dX7_multiply_165 rfl ?_
  refine x_iload (M := M_X7_multiply) dX7_multiply_166 rfl ?_
  refine y_iast (M := M_X7_multiply) (k := 8) dX7_multiply_168 o8887 (vp_inD (by decide +kernel)) (by decide +kernel) (fun h8892 w8893 f8894 => ?_)
  have w8895 : ob h8892 272 = some (.inl (0, 16, .inl (fun _ => 0))) := by rw [w8893, up_z (k := 8)]
  refine x_aload_n (M := M_X7_multiply) dX7_multiply_169 rfl ?_
  have o8896 := (f8894 252 _ (by decide) o8886)
  refine x_getf (M := M_X7_multiply) (ci := 10) (C := RX7) (T := TX7) (N := 5) (ty := tyX7) cl10 dX7_multiply_170 o8896 4 (by decide) t_551 (v := .ref 273) rfl ?_
  refine x_iload_n (M := M_X7_multiply) dX7_multiply_173 rfl ?_
  refine x_aload_n (M := M_X7_multiply) dX7_multiply_174 rfl ?_
  refine x_getf (M := M_X7_multiply) (ci := 10) (C := RX7) (T := TX7) (N := 5) (ty := tyX7) cl10 dX7_multiply_175 o8896 4 (by decide) t_551 (v := .ref 273) rfl ?_
  refine x_iload_n (M := M_X7_multiply) dX7_multiply_178 rfl ?_
  have o8898 := (f8894 273 _ (by decide) o8897)
  refine x_iald (M := M_X7_multiply) dX7_multiply_179 o8898 (vp_inD (by decide +kernel)) ?_
  refine x_top (M := M_X7_multiply) (y := (Int32.ofInt 0)) (by decide +kernel) ?_
  refine x_aload_n (M := M_X7_multiply) dX7_multiply_180 rfl ?_
  refine x_getf (M := M_X7_multiply) (ci := 10) (C := RX7) (T := TX7) (N := 5) (ty := tyX7) cl10 dX7_multiply_181 o8896 4 (by decide) t_551 (v := .ref 273) rfl ?_
  refine x_iload_n (M := M_X7_multiply) dX7_multiply_184 rfl ?_
  refine x_iald (M := M_X7_multiply) dX7_multiply_185 o8898 (vp_inD (by decide +kernel)) ?_
  refine x_top (M := M_X7_multiply) (y := (Int32.ofInt 0)) (by decide +kernel) ?_
  refine x_imul (M := M_X7_multiply) dX7_multiply_186 ?_
  refine x_norm (M := M_X7_multiply) (st' := [.int (Int32.ofInt 0), .int (Int32.ofInt 8), .ref 273]) rfl (vi_cons (by decide +kernel : ((Int32.ofInt 0) * (Int32.ofInt 0)) = (Int32.ofInt 0)) rfl) rfl rfl rfl ?_
  refine y_iast (M := M_X7_multiply) (k := 8) dX7_multiply_187 o8898 (vp_inD (by decide +kernel)) (by decide +kernel) (fun h8899 w8900 f8901 => ?_)
  have w8902 : ob h8899 273 = some (.inl (0, 16, .inl (fun _ => 0))) := by rw [w8900, up_z (k := 8)]
  refine x_aload_n (M := M_X7_multiply) dX7_multiply_188 rfl ?_
  refine x_iload_n (M := M_X7_multiply) dX7_multiply_189 rfl ?_
  have o8911 := (f8901 252 _ (by decide) o8896)
  have o8912 := (f8901 272 _ (by decide) w8895)
  refine y_callVR (M := M_X7_multiply) (M' := M_X7_trim) rfl rfl dX7_multiply_190 m_X7_trim t_2339 t_2341 s_150 (q8910 hl o8911 o8912 w8902) rfl rfl o8911 rfl (Nat.le_of_ble_eq_true rfl) (Nat.le_of_ble_eq_true rfl) (Nat.le_of_ble_eq_true rfl) (Nat.le_of_ble_eq_true rfl) (fun h8913 f8914 w8915 => ?_)
  obtain ⟨o8916, -⟩ := w8915
  have o8917 := (f8914 272 _ (by decide) o8912)
  exact x_vret (M := M_X7_multiply) dX7_multiply_193 rfl ⟨rfl, (fr_tr f8914 (by decide) (fr_tr f8901 (by decide) (fr_tr f8894 (by decide) fr_rf))), ⟨o8917, o8916, trivial⟩⟩ (Nat.le_of_ble_eq_true rfl) (Nat.le_of_ble_eq_true rfl)
set_option maxRecDepth 10000 in
theorem q8930 {l : Launch} {E : EE} (hl : l.stackTraces = false) {h : HP} (o8628 : ob h 252 = some (.inr (10, [.ref 253, .ref 254, .ref 255, .ref 272, .ref 273]))) (o8629 : ob h 272 = some (.inl (0, 16, .inl (fun _ => 0)))) (o8630 : ob h 255 = some (.inl (5, 16, .inr (.inr (.inr (.inr (fun i => if i < 16 then some (255 + 1 + i) else none))))))) (o8631 : ob h 269 = some (.inl (0, 280, .inl (fun _ => 0)))) (o8632 : ob h 273 = some (.inl (0, 16, .inl (fun _ => 0)))) (o8673 : ob h 270 = some (.inl (0, 280, .inl (fun _ => 0)))) (o8747 : ob h 271 = some (.inl (0, 280, .inl (fun _ => 0)))) (o8878 : ob h 256 = some (.inl (0, 280, .inl (fun _ => 0)))) (o8921 : ob h 264 = some (.inl (0, 280, .inl (fun _ => 0)))) : en_C l E M_X7_putTerm 3 0 0 [.ref 252, .int (Int32.ofInt 8), .int (Int32.ofInt 2), .int (Int32.ofInt 4), .int (Int32.ofInt 6)] h (pF none [272, 273, 271, 256] h (fun h' => ob h' 272 = some (.inl (0, 16, .inl (fun _ => 0))) ∧ ob h' 273 = some (.inl (0, 16, .inl (fun _ => 0))) ∧ ob h' 271 = some (.inl (0, 280, .inl (fun _ => 0))) ∧ ob h' 256 = some (.inl (0, 280, .inl (fun _ => 0))) ∧ True)) := by
  refine en_mk m_X7_putTerm rfl hl (Nat.le_of_ble_eq_true rfl) ?_
  refine x_aload_n (M := M_X7_putTerm) dX7_putTerm_0 rfl ?_
  refine x_bipush (M := M_X7_putTerm) dX7_putTerm_1 ?_
  refine x_iload_n (M := M_X7_putTerm) dX7_putTerm_3 rfl ?_
  refine x_iload_n (M := M_X7_putTerm) dX7_putTerm_4 rfl ?_
  refine x_norm (M := M_X7_putTerm) (st' := [.int (Int32.ofInt 2), .int (Int32.ofInt 2), .int (Int32.ofInt 13), .ref 252]) rfl (v_cons (v_cons (vi_cons (by decide +kernel : ((Int8.ofInt 13).toInt32) = (Int32.ofInt 13)) rfl))) rfl rfl rfl ?_
  refine y_callVR (M := M_X7_putTerm) (M' := M_X7_multiply) rfl rfl dX7_putTerm_5 m_X7_multiply t_2360 t_2362 s_155 (q8627 hl o8628 o8629 o8630 o8631 o8632) rfl rfl o8628 rfl (Nat.le_of_ble_eq_true rfl) (Nat.le_of_ble_eq_true rfl) (Nat.le_of_ble_eq_true rfl) (Nat.le_of_ble_eq_true rfl) (fun h8633 f8634 w8635 => ?_)
  obtain ⟨o8636, o8637, -⟩ := w8635
  refine x_aload_n (M := M_X7_putTerm) dX7_putTerm_8 rfl ?_
  refine x_bipush (M := M_X7_putTerm) dX7_putTerm_9 ?_
  refine x_iload_n (M := M_X7_putTerm) dX7_putTerm_11 rfl ?_
  refine x_iconst (M := M_X7_putTerm) dX7_putTerm_12 ?_
  refine x_iadd (M := M_X7_putTerm) dX7_putTerm_13 ?_
  refine x_iload_n (M := M_X7_putTerm) dX7_putTerm_14 rfl ?_
  refine x_iconst (M := M_X7_putTerm) dX7_putTerm_15 ?_
  refine x_iadd (M := M_X7_putTerm) dX7_putTerm_16 ?_
  refine x_norm (M := M_X7_putTerm) (st' := [.int (Int32.ofInt 3), .int (Int32.ofInt 3), .int (Int32.ofInt 14), .ref 252]) rfl (vi_cons (by decide +kernel : ((Int32.ofInt 2) + (Int32.ofInt 1)) = (Int32.ofInt 3)) (vi_cons (by decide +kernel : ((Int32.ofInt 2) + (Int32.ofInt 1)) = (Int32.ofInt 3)) (vi_cons (by decide +kernel : ((Int8.ofInt 14).toInt32) = (Int32.ofInt 14)) rfl))) rfl rfl rfl ?_
  have o8671 := (f8634 252 _ (by decide) o8628)
  have o8672 := (f8634 255 _ (by decide) o8630)
  have o8674 := (f8634 270 _ (by decide) o8673)
  refine y_callVR (M := M_X7_putTerm) (M' := M_X7_multiply) rfl rfl dX7_putTerm_17 m_X7_multiply t_2360 t_2362 s_155 (q8670 hl o8671 o8636 o8672 o8674 o8637) rfl rfl o8671 rfl (Nat.le_of_ble_eq_true rfl) (Nat.le_of_ble_eq_true rfl) (Nat.le_of_ble_eq_true rfl) (Nat.le_of_ble_eq_true rfl) (fun h8675 f8676 w8677 => ?_)
  obtain ⟨o8678, o8679, -⟩ := w8677
  refine x_aload_n (M := M_X7_putTerm) dX7_putTerm_20 rfl ?_
  refine x_bipush (M := M_X7_putTerm) dX7_putTerm_21 ?_
  refine x_bipush (M := M_X7_putTerm) dX7_putTerm_23 ?_
  refine x_bipush (M := M_X7_putTerm) dX7_putTerm_25 ?_
  refine x_iconst (M := M_X7_putTerm) dX7_putTerm_27 ?_
  refine x_norm (M := M_X7_putTerm) (st' := [.int (Int32.ofInt 1), .int (Int32.ofInt 14), .int (Int32.ofInt 13), .int (Int32.ofInt 15), .ref 252]) rfl (v_cons (vi_cons (by decide +kernel : ((Int8.ofInt 14).toInt32) = (Int32.ofInt 14)) (vi_cons (by decide +kernel : ((Int8.ofInt 13).toInt32) = (Int32.ofInt 13)) (vi_cons (by decide +kernel : ((Int8.ofInt 15).toInt32) = (Int32.ofInt 15)) rfl)))) rfl rfl rfl ?_
  have o8745 := (f8676 252 _ (by decide) o8671)
  have o8746 := (f8676 255 _ (by decide) o8672)
  have o8748 := (f8676 271 _ (by decide) (f8634 271 _ (by decide) o8747))
  refine y_callVR (M := M_X7_putTerm) (M' := M_X7_addSigned) rfl rfl dX7_putTerm_28 m_X7_addSigned t_2343 t_2345 s_151 (q8744 hl o8745 o8679 o8678 o8746 o8748) rfl rfl o8745 rfl (Nat.le_of_ble_eq_true rfl) (Nat.le_of_ble_eq_true rfl) (Nat.le_of_ble_eq_true rfl) (Nat.le_of_ble_eq_true rfl) (fun h8749 f8750 w8751 => ?_)
  obtain ⟨o8752, o8753, o8754, -⟩ := w8751
  refine x_aload_n (M := M_X7_putTerm) dX7_putTerm_31 rfl ?_
  refine x_bipush (M := M_X7_putTerm) dX7_putTerm_32 ?_
  refine x_iload_n (M := M_X7_putTerm) dX7_putTerm_34 rfl ?_
  refine x_iload (M := M_X7_putTerm) dX7_putTerm_35 rfl ?_
  refine x_iconst (M := M_X7_putTerm) dX7_putTerm_37 ?_
  refine x_iadd (M := M_X7_putTerm) dX7_putTerm_38 ?_
  refine x_norm (M := M_X7_putTerm) (st' := [.int (Int32.ofInt 7), .int (Int32.ofInt 4), .int (Int32.ofInt 13), .ref 252]) rfl (vi_cons (by decide +kernel : ((Int32.ofInt 6) + (Int32.ofInt 1)) = (Int32.ofInt 7)) (v_cons (vi_cons (by decide +kernel : ((Int8.ofInt 13).toInt32) = (Int32.ofInt 13)) rfl))) rfl rfl rfl ?_
  have o8778 := (f8750 252 _ (by decide) o8745)
  have o8779 := (f8750 255 _ (by decide) o8746)
  have o8780 := (f8750 269 _ (by decide) (f8676 269 _ (by decide) (f8634 269 _ (by decide) o8631)))
  refine y_callVR (M := M_X7_putTerm) (M' := M_X7_multiply) rfl rfl dX7_putTerm_39 m_X7_multiply t_2360 t_2362 s_155 (q8777 hl o8778 o8753 o8779 o8780 o8754) rfl rfl o8778 rfl (Nat.le_of_ble_eq_true rfl) (Nat.le_of_ble_eq_true rfl) (Nat.le_of_ble_eq_true rfl) (Nat.le_of_ble_eq_true rfl) (fun h8781 f8782 w8783 => ?_)
  obtain ⟨o8784, o8785, -⟩ := w8783
  refine x_aload_n (M := M_X7_putTerm) dX7_putTerm_42 rfl ?_
  refine x_bipush (M := M_X7_putTerm) dX7_putTerm_43 ?_
  refine x_iload_n (M := M_X7_putTerm) dX7_putTerm_45 rfl ?_
  refine x_iconst (M := M_X7_putTerm) dX7_putTerm_46 ?_
  refine x_iadd (M := M_X7_putTerm) dX7_putTerm_47 ?_
  refine x_iload (M := M_X7_putTerm) dX7_putTerm_48 rfl ?_
  refine x_norm (M := M_X7_putTerm) (st' := [.int (Int32.ofInt 6), .int (Int32.ofInt 5), .int (Int32.ofInt 14), .ref 252]) rfl (v_cons (vi_cons (by decide +kernel : ((Int32.ofInt 4) + (Int32.ofInt 1)) = (Int32.ofInt 5)) (vi_cons (by decide +kernel : ((Int8.ofInt 14).toInt32) = (Int32.ofInt 14)) rfl))) rfl rfl rfl ?_
  have o8809 := (f8782 252 _ (by decide) o8778)
  have o8810 := (f8782 255 _ (by decide) o8779)
  have o8811 := (f8782 270 _ (by decide) (f8750 270 _ (by decide) (f8676 270 _ (by decide) o8674)))
  refine y_callVR (M := M_X7_putTerm) (M' := M_X7_multiply) rfl rfl dX7_putTerm_50 m_X7_multiply t_2360 t_2362 s_155 (q8808 hl o8809 o8784 o8810 o8811 o8785) rfl rfl o8809 rfl (Nat.le_of_ble_eq_true rfl) (Nat.le_of_ble_eq_true rfl) (Nat.le_of_ble_eq_true rfl) (Nat.le_of_ble_eq_true rfl) (fun h8812 f8813 w8814 => ?_)
  obtain ⟨o8815, o8816, -⟩ := w8814
  refine x_aload_n (M := M_X7_putTerm) dX7_putTerm_53 rfl ?_
  refine x_iconst (M := M_X7_putTerm) dX7_putTerm_54 ?_
  refine x_bipush (M := M_X7_putTerm) dX7_putTerm_55 ?_
  refine x_bipush (M := M_X7_putTerm) dX7_putTerm_57 ?_
  refine x_iconst (M := M_X7_putTerm) dX7_putTerm_59 ?_
  refine x_norm (M := M_X7_putTerm) (st' := [.int (Int32.ofInt (-1)), .int (Int32.ofInt 14), .int (Int32.ofInt 13), .int (Int32.ofInt 0), .ref 252]) rfl (v_cons (vi_cons (by decide +kernel : ((Int8.ofInt 14).toInt32) = (Int32.ofInt 14)) (vi_cons (by decide +kernel : ((Int8.ofInt 13).toInt32) = (Int32.ofInt 13)) rfl))) rfl rfl rfl ?_
  have o8876 := (f8813 252 _ (by decide) o8809)
  have o8877 := (f8813 255 _ (by decide) o8810)
  have o8879 := (f8813 256 _ (by decide) (f8782 256 _ (by decide) (f8750 256 _ (by decide) (f8676 256 _ (by decide) (f8634 256 _ (by decide) o8878)))))
  refine y_callVR (M := M_X7_putTerm) (M' := M_X7_addSigned) rfl rfl dX7_putTerm_60 m_X7_addSigned t_2343 t_2345 s_151 (q8875 hl o8876 o8816 o8815 o8877 o8879) rfl rfl o8876 rfl (Nat.le_of_ble_eq_true rfl) (Nat.le_of_ble_eq_true rfl) (Nat.le_of_ble_eq_true rfl) (Nat.le_of_ble_eq_true rfl) (fun h8880 f8881 w8882 => ?_)
  obtain ⟨o8883, o8884, o8885, -⟩ := w8882
  refine x_aload_n (M := M_X7_putTerm) dX7_putTerm_63 rfl ?_
  refine x_iload_n (M := M_X7_putTerm) dX7_putTerm_64 rfl ?_
  refine x_bipush (M := M_X7_putTerm) dX7_putTerm_65 ?_
  refine x_iconst (M := M_X7_putTerm) dX7_putTerm_67 ?_
  refine x_norm (M := M_X7_putTerm) (st' := [.int (Int32.ofInt 0), .int (Int32.ofInt 15), .int (Int32.ofInt 8), .ref 252]) rfl (v_cons (vi_cons (by decide +kernel : ((Int8.ofInt 15).toInt32) = (Int32.ofInt 15)) rfl)) rfl rfl rfl ?_
  have o8919 := (f8881 252 _ (by decide) o8876)
  have o8920 := (f8881 255 _ (by decide) o8877)
  have o8922 := (f8881 264 _ (by decide) (f8813 264 _ (by decide) (f8782 264 _ (by decide) (f8750 264 _ (by decide) (f8676 264 _ (by decide) (f8634 264 _ (by decide) o8921))))))
  refine y_callVR (M := M_X7_putTerm) (M' := M_X7_multiply) rfl rfl dX7_putTerm_68 m_X7_multiply t_2360 t_2362 s_155 (q8918 hl o8919 o8884 o8920 o8922 o8885) rfl rfl o8919 rfl (Nat.le_of_ble_eq_true rfl) (Nat.le_of_ble_eq_true rfl) (Nat.le_of_ble_eq_true rfl) (Nat.le_of_ble_eq_true rfl) (fun h8923 f8924 w8925 => ?_)
  obtain ⟨o8926, o8927, -⟩ := w8925
  have o8928 := (f8924 271 _ (by decide) (f8881 271 _ (by decide) (f8813 271 _ (by decide) (f8782 271 _ (by decide) o8752))))
  have o8929 := (f8924 256 _ (by decide) o8883)
  exact x_vret (M := M_X7_putTerm) dX7_putTerm_71 rfl ⟨rfl, (fr_tr f8924 (by decide) (fr_tr f8881 (by decide) (fr_tr f8813 (by decide) (fr_tr f8782 (by decide) (fr_tr f8750 (by decide) (fr_tr f8676 (by decide) (fr_tr f8634 (by decide) fr_rf))))))), ⟨o8926, o8927, o8928, o8929, trivial⟩⟩ (Nat.le_of_ble_eq_true rfl) (Nat.le_of_ble_eq_true rfl)
set_option maxRecDepth 10000 in
theorem q8970 {l : Launch} {E : EE} (hl : l.stackTraces = false) {h : HP} (o8948 : ob h 252 = some (.inr (10, [.ref 253, .ref 254, .ref 255, .ref 272, .ref 273]))) (o8949 : ob h 272 = some (.inl (0, 16, .inl (fun _ => 0)))) (o8950 : ob h 255 = some (.inl (5, 16, .inr (.inr (.inr (.inr (fun i => if i < 16 then some (255 + 1 + i) else none))))))) (o8951 : ob h 269 = some (.inl (0, 280, .inl (fun _ => 0)))) (o8957 : ob h 273 = some (.inl (0, 16, .inl (fun _ => 0)))) : en_C l E M_X7_multiply 2 0 0 [.ref 252, .int (Int32.ofInt 13), .int (Int32.ofInt 4), .int (Int32.ofInt 4)] h (pF none [272, 273] h (fun h' => ob h' 272 = some (.inl (0, 16, .inl (fun _ => 0))) ∧ ob h' 273 = some (.inl (0, 16, .inl (fun _ => 0))) ∧ True)) := by
  refine en_mk m_X7_multiply rfl hl (Nat.le_of_ble_eq_true rfl) ?_
  refine x_aload_n (M := M_X7_multiply) dX7_multiply_0 rfl ?_
  refine x_getf (M := M_X7_multiply) (ci := 10) (C := RX7) (T := TX7) (N := 5) (ty := tyX7) cl10 dX7_multiply_1 o8948 3 (by decide) t_550 (v := .ref 272) rfl ?_
  refine x_iload_n (M := M_X7_multiply) dX7_multiply_4 rfl ?_
  refine x_iald (M := M_X7_multiply) dX7_multiply_5 o8949 (vp_inD (by decide +kernel)) ?_
  refine x_top (M := M_X7_multiply) (y := (Int32.ofInt 0)) (by decide +kernel) ?_
  refine x_aload_n (M := M_X7_multiply) dX7_multiply_6 rfl ?_
  refine x_getf (M := M_X7_multiply) (ci := 10) (C := RX7) (T := TX7) (N := 5) (ty := tyX7) cl10 dX7_multiply_7 o8948 3 (by decide) t_550 (v := .ref 272) rfl ?_
  refine x_iload_n (M := M_X7_multiply) dX7_multiply_10 rfl ?_
  refine x_iald (M := M_X7_multiply) dX7_multiply_11 o8949 (vp_inD (by decide +kernel)) ?_
  refine x_top (M := M_X7_multiply) (y := (Int32.ofInt 0)) (by decide +kernel) ?_
  refine x_iadd (M := M_X7_multiply) dX7_multiply_12 ?_
  refine x_sipush (M := M_X7_multiply) dX7_multiply_13 ?_
  refine x_mmin (M := M_X7_multiply) dX7_multiply_16 t_2351 t_626 t_20 t_627 (Nat.le_of_ble_eq_true rfl) (Nat.le_of_ble_eq_true rfl) (Nat.le_of_ble_eq_true rfl) (Nat.le_of_ble_eq_true rfl) ?_
  refine x_top (M := M_X7_multiply) (y := (Int32.ofInt 0)) (by decide +kernel) ?_
  refine x_istore (M := M_X7_multiply) dX7_multiply_19 (Nat.le_of_ble_eq_true rfl) rfl ?_
  refine x_aload_n (M := M_X7_multiply) dX7_multiply_21 rfl ?_
  refine x_getf (M := M_X7_multiply) (ci := 10) (C := RX7) (T := TX7) (N := 5) (ty := tyX7) cl10 dX7_multiply_22 o8948 2 (by decide) t_549 (v := .ref 255) rfl ?_
  refine x_iload_n (M := M_X7_multiply) dX7_multiply_25 rfl ?_
  refine x_gald (M := M_X7_multiply) (b := 269) dX7_multiply_26 o8950 (vp_inD (by decide +kernel)) (by decide +kernel) ?_
  refine x_iconst (M := M_X7_multiply) dX7_multiply_27 ?_
  refine x_iload (M := M_X7_multiply) dX7_multiply_28 rfl ?_
  refine x_iconst (M := M_X7_multiply) dX7_multiply_30 ?_
  refine x_callSR (M := M_X7_multiply) (M' := M_J7_fill_fda19) rfl rfl dX7_multiply_31 m_J7_fill_fda19 t_2337 t_1522 (q8599 hl o8951) rfl rfl (Nat.le_of_ble_eq_true rfl) (Nat.le_of_ble_eq_true rfl) (Nat.le_of_ble_eq_true rfl) (Nat.le_of_ble_eq_true rfl) ?_
  refine x_iconst (M := M_X7_multiply) dX7_multiply_34 ?_
  refine x_istore (M := M_X7_multiply) dX7_multiply_35 (Nat.le_of_ble_eq_true rfl) rfl ?_
  refine x_iload (M := M_X7_multiply) dX7_multiply_37 rfl ?_
  refine x_aload_n (M := M_X7_multiply) dX7_multiply_39 rfl ?_
  refine x_getf (M := M_X7_multiply) (ci := 10) (C := RX7) (T := TX7) (N := 5) (ty := tyX7) cl10 dX7_multiply_40 o8948 3 (by decide) t_550 (v := .ref 272) rfl ?_
  refine x_iload_n (M := M_X7_multiply) dX7_multiply_43 rfl ?_
  refine x_iald (M := M_X7_multiply) dX7_multiply_44 o8949 (vp_inD (by decide +kernel)) ?_
  refine x_top (M := M_X7_multiply) (y := (Int32.ofInt 0)) (by decide +kernel) ?_
  refine x_icmp_ge (M := M_X7_multiply) (tgt := 161) dX7_multiply_45 (by decide) (fun _ => ?_) (fun q => absurd q (by decide +kernel))
  refine x_aload_n (M := M_X7_multiply) dX7_multiply_161 rfl ?_
  refine x_getf (M := M_X7_multiply) (ci := 10) (C := RX7) (T := TX7) (N := 5) (ty := tyX7) cl10 dX7_multiply_162 o8948 3 (by decide) t_550 (v := .ref 272) rfl ?_
  refine x_iload_n (M := M_X7_multiply) dX7_multiply_165 rfl ?_
  refine x_iload (M := M_X7_multiply) dX7_multiply_166 rfl ?_
  refine y_iast (M := M_X7_multiply) (k := 13) dX7_multiply_168 o8949 (vp_inD (by decide +kernel)) (by decide +kernel) (fun h8952 w8953 f8954 => ?_)
  have w8955 : ob h8952 272 = some (.inl (0, 16, .inl (fun _ => 0))) := by rw [w8953, up_z (k := 13)]
  refine x_aload_n (M := M_X7_multiply) dX7_multiply_169 rfl ?_
  have o8956 := (f8954 252 _ (by decide) o8948)
  refine x_getf (M := M_X7_multiply) (ci := 10) (C := RX7) (T := TX7) (N := 5) (ty := tyX7) cl10 dX7_multiply_170 o8956 4 (by decide) t_551 (v := .ref 273) rfl ?_
  refine x_iload_n (M := M_X7_multiply) dX7_multiply_173 rfl ?_
  refine x_aload_n (M := M_X7_multiply) dX7_multiply_174 rfl ?_
  refine x_getf (M := M_X7_multiply) (ci := 10) (C := RX7) (T := TX7) (N := 5) (ty := tyX7) cl10 dX7_multiply_175 o8956 4 (by decide) t_551 (v := .ref 273) rfl ?_
  refine x_iload_n (M := M_X7_multiply) dX7_multiply_178 rfl ?_
  have o8958 := (f8954 273 _ (by decide) o8957)
  refine x_iald (M := M_X7_multiply) dX7_multiply_179 o8958 (vp_inD (by decide +kernel)) ?_
  refine x_top (M := M_X7_multiply) (y := (Int32.ofInt 0)) (by decide +kernel) ?_
  refine x_aload_n (M := M_X7_multiply) dX7_multiply_180 rfl ?_
  refine x_getf (M := M_X7_multiply) (ci := 10) (C := RX7) (T := TX7) (N := 5) (ty := tyX7) cl10 dX7_multiply_181 o8956 4 (by decide) t_551 (v := .ref 273) rfl ?_
  refine x_iload_n (M := M_X7_multiply) dX7_multiply_184 rfl ?_
  refine x_iald (M := M_X7_multiply) dX7_multiply_185 o8958 (vp_inD (by decide +kernel)) ?_
  refine x_top (M := M_X7_multiply) (y := (Int32.ofInt 0)) (by decide +kernel) ?_
  refine x_imul (M := M_X7_multiply) dX7_multiply_186 ?_
  refine x_norm (M := M_X7_multiply) (st' := [.int (Int32.ofInt 0), .int (Int32.ofInt 13), .ref 273]) rfl (vi_cons (by decide +kernel : ((Int32.ofInt 0) * (Int32.ofInt 0)) = (Int32.ofInt 0)) rfl) rfl rfl rfl ?_
  refine y_iast (M := M_X7_multiply) (k := 13) dX7_multiply_187 o8958 (vp_inD (by decide +kernel)) (by decide +kernel) (fun h8959 w8960 f8961 => ?_)
  have w8962 : ob h8959 273 = some (.inl (0, 16, .inl (fun _ => 0))) := by rw [w8960, up_z (k := 13)]
  refine x_aload_n (M := M_X7_multiply) dX7_multiply_188 rfl ?_
  refine x_iload_n (M := M_X7_multiply) dX7_multiply_189 rfl ?_
  have o8963 := (f8961 252 _ (by decide) o8956)
  have o8964 := (f8961 272 _ (by decide) w8955)
  refine y_callVR (M := M_X7_multiply) (M' := M_X7_trim) rfl rfl dX7_multiply_190 m_X7_trim t_2339 t_2341 s_150 (q8619 hl o8963 o8964 w8962) rfl rfl o8963 rfl (Nat.le_of_ble_eq_true rfl) (Nat.le_of_ble_eq_true rfl) (Nat.le_of_ble_eq_true rfl) (Nat.le_of_ble_eq_true rfl) (fun h8965 f8966 w8967 => ?_)
  obtain ⟨o8968, -⟩ := w8967
  have o8969 := (f8966 272 _ (by decide) o8964)
  exact x_vret (M := M_X7_multiply) dX7_multiply_193 rfl ⟨rfl, (fr_tr f8966 (by decide) (fr_tr f8961 (by decide) (fr_tr f8954 (by decide) fr_rf))), ⟨o8969, o8968, trivial⟩⟩ (Nat.le_of_ble_eq_true rfl) (Nat.le_of_ble_eq_true rfl)
set_option maxRecDepth 10000 in
theorem q9003 {l : Launch} {E : EE} (hl : l.stackTraces = false) {h : HP} (o8981 : ob h 252 = some (.inr (10, [.ref 253, .ref 254, .ref 255, .ref 272, .ref 273]))) (o8982 : ob h 272 = some (.inl (0, 16, .inl (fun _ => 0)))) (o8983 : ob h 255 = some (.inl (5, 16, .inr (.inr (.inr (.inr (fun i => if i < 16 then some (255 + 1 + i) else none))))))) (o8984 : ob h 270 = some (.inl (0, 280, .inl (fun _ => 0)))) (o8990 : ob h 273 = some (.inl (0, 16, .inl (fun _ => 0)))) : en_C l E M_X7_multiply 2 0 0 [.ref 252, .int (Int32.ofInt 14), .int (Int32.ofInt 5), .int (Int32.ofInt 5)] h (pF none [272, 273] h (fun h' => ob h' 272 = some (.inl (0, 16, .inl (fun _ => 0))) ∧ ob h' 273 = some (.inl (0, 16, .inl (fun _ => 0))) ∧ True)) := by
  refine en_mk m_X7_multiply rfl hl (Nat.le_of_ble_eq_true rfl) ?_
  refine x_aload_n (M := M_X7_multiply) dX7_multiply_0 rfl ?_
  refine x_getf (M := M_X7_multiply) (ci := 10) (C := RX7) (T := TX7) (N := 5) (ty := tyX7) cl10 dX7_multiply_1 o8981 3 (by decide) t_550 (v := .ref 272) rfl ?_
  refine x_iload_n (M := M_X7_multiply) dX7_multiply_4 rfl ?_
  refine x_iald (M := M_X7_multiply) dX7_multiply_5 o8982 (vp_inD (by decide +kernel)) ?_
  refine x_top (M := M_X7_multiply) (y := (Int32.ofInt 0)) (by decide +kernel) ?_
  refine x_aload_n (M := M_X7_multiply) dX7_multiply_6 rfl ?_
  refine x_getf (M := M_X7_multiply) (ci := 10) (C := RX7) (T := TX7) (N := 5) (ty := tyX7) cl10 dX7_multiply_7 o8981 3 (by decide) t_550 (v := .ref 272) rfl ?_
  refine x_iload_n (M := M_X7_multiply) dX7_multiply_10 rfl ?_
  refine x_iald (M := M_X7_multiply) dX7_multiply_11 o8982 (vp_inD (by decide +kernel)) ?_
  refine x_top (M := M_X7_multiply) (y := (Int32.ofInt 0)) (by decide +kernel) ?_
  refine x_iadd (M := M_X7_multiply) dX7_multiply_12 ?_
  refine x_sipush (M := M_X7_multiply) dX7_multiply_13 ?_
  refine x_mmin (M := M_X7_multiply) dX7_multiply_16 t_2351 t_626 t_20 t_627 (Nat.le_of_ble_eq_true rfl) (Nat.le_of_ble_eq_true rfl) (Nat.le_of_ble_eq_true rfl) (Nat.le_of_ble_eq_true rfl) ?_
  refine x_top (M := M_X7_multiply) (y := (Int32.ofInt 0)) (by decide +kernel) ?_
  refine x_istore (M := M_X7_multiply) dX7_multiply_19 (Nat.le_of_ble_eq_true rfl) rfl ?_
  refine x_aload_n (M := M_X7_multiply) dX7_multiply_21 rfl ?_
  refine x_getf (M := M_X7_multiply) (ci := 10) (C := RX7) (T := TX7) (N := 5) (ty := tyX7) cl10 dX7_multiply_22 o8981 2 (by decide) t_549 (v := .ref 255) rfl ?_
  refine x_iload_n (M := M_X7_multiply) dX7_multiply_25 rfl ?_
  refine x_gald (M := M_X7_multiply) (b := 270) dX7_multiply_26 o8983 (vp_inD (by decide +kernel)) (by decide +kernel) ?_
  refine x_iconst (M := M_X7_multiply) dX7_multiply_27 ?_
  refine x_iload (M := M_X7_multiply) dX7_multiply_28 rfl ?_
  refine x_iconst (M := M_X7_multiply) dX7_multiply_30 ?_
  refine x_callSR (M := M_X7_multiply) (M' := M_J7_fill_fda19) rfl rfl dX7_multiply_31 m_J7_fill_fda19 t_2337 t_1522 (q8642 hl o8984) rfl rfl (Nat.le_of_ble_eq_true rfl) (Nat.le_of_ble_eq_true rfl) (Nat.le_of_ble_eq_true rfl) (Nat.le_of_ble_eq_true rfl) ?_
  refine x_iconst (M := M_X7_multiply) dX7_multiply_34 ?_
  refine x_istore (M := M_X7_multiply) dX7_multiply_35 (Nat.le_of_ble_eq_true rfl) rfl ?_
  refine x_iload (M := M_X7_multiply) dX7_multiply_37 rfl ?_
  refine x_aload_n (M := M_X7_multiply) dX7_multiply_39 rfl ?_
  refine x_getf (M := M_X7_multiply) (ci := 10) (C := RX7) (T := TX7) (N := 5) (ty := tyX7) cl10 dX7_multiply_40 o8981 3 (by decide) t_550 (v := .ref 272) rfl ?_
  refine x_iload_n (M := M_X7_multiply) dX7_multiply_43 rfl ?_
  refine x_iald (M := M_X7_multiply) dX7_multiply_44 o8982 (vp_inD (by decide +kernel)) ?_
  refine x_top (M := M_X7_multiply) (y := (Int32.ofInt 0)) (by decide +kernel) ?_
  refine x_icmp_ge (M := M_X7_multiply) (tgt := 161) dX7_multiply_45 (by decide) (fun _ => ?_) (fun q => absurd q (by decide +kernel))
  refine x_aload_n (M := M_X7_multiply) dX7_multiply_161 rfl ?_
  refine x_getf (M := M_X7_multiply) (ci := 10) (C := RX7) (T := TX7) (N := 5) (ty := tyX7) cl10 dX7_multiply_162 o8981 3 (by decide) t_550 (v := .ref 272) rfl ?_
  refine x_iload_n (M := M_X7_multiply) dX7_multiply_165 rfl ?_
  refine x_iload (M := M_X7_multiply) dX7_multiply_166 rfl ?_
  refine y_iast (M := M_X7_multiply) (k := 14) dX7_multiply_168 o8982 (vp_inD (by decide +kernel)) (by decide +kernel) (fun h8985 w8986 f8987 => ?_)
  have w8988 : ob h8985 272 = some (.inl (0, 16, .inl (fun _ => 0))) := by rw [w8986, up_z (k := 14)]
  refine x_aload_n (M := M_X7_multiply) dX7_multiply_169 rfl ?_
  have o8989 := (f8987 252 _ (by decide) o8981)
  refine x_getf (M := M_X7_multiply) (ci := 10) (C := RX7) (T := TX7) (N := 5) (ty := tyX7) cl10 dX7_multiply_170 o8989 4 (by decide) t_551 (v := .ref 273) rfl ?_
  refine x_iload_n (M := M_X7_multiply) dX7_multiply_173 rfl ?_
  refine x_aload_n (M := M_X7_multiply) dX7_multiply_174 rfl ?_
  refine x_getf (M := M_X7_multiply) (ci := 10) (C := RX7) (T := TX7) (N := 5) (ty := tyX7) cl10 dX7_multiply_175 o8989 4 (by decide) t_551 (v := .ref 273) rfl ?_
  refine x_iload_n (M := M_X7_multiply) dX7_multiply_178 rfl ?_
  have o8991 := (f8987 273 _ (by decide) o8990)
  refine x_iald (M := M_X7_multiply) dX7_multiply_179 o8991 (vp_inD (by decide +kernel)) ?_
  refine x_top (M := M_X7_multiply) (y := (Int32.ofInt 0)) (by decide +kernel) ?_
  refine x_aload_n (M := M_X7_multiply) dX7_multiply_180 rfl ?_
  refine x_getf (M := M_X7_multiply) (ci := 10) (C := RX7) (T := TX7) (N := 5) (ty := tyX7) cl10 dX7_multiply_181 o8989 4 (by decide) t_551 (v := .ref 273) rfl ?_
  refine x_iload_n (M := M_X7_multiply) dX7_multiply_184 rfl ?_
  refine x_iald (M := M_X7_multiply) dX7_multiply_185 o8991 (vp_inD (by decide +kernel)) ?_
  refine x_top (M := M_X7_multiply) (y := (Int32.ofInt 0)) (by decide +kernel) ?_
  refine x_imul (M := M_X7_multiply) dX7_multiply_186 ?_
  refine x_norm (M := M_X7_multiply) (st' := [.int (Int32.ofInt 0), .int (Int32.ofInt 14), .ref 273]) rfl (vi_cons (by decide +kernel : ((Int32.ofInt 0) * (Int32.ofInt 0)) = (Int32.ofInt 0)) rfl) rfl rfl rfl ?_
  refine y_iast (M := M_X7_multiply) (k := 14) dX7_multiply_187 o8991 (vp_inD (by decide +kernel)) (by decide +kernel) (fun h8992 w8993 f8994 => ?_)
  have w8995 : ob h8992 273 = some (.inl (0, 16, .inl (fun _ => 0))) := by rw [w8993, up_z (k := 14)]
  refine x_aload_n (M := M_X7_multiply) dX7_multiply_188 rfl ?_
  refine x_iload_n (M := M_X7_multiply) dX7_multiply_189 rfl ?_
  have o8996 := (f8994 252 _ (by decide) o8989)
  have o8997 := (f8994 272 _ (by decide) w8988)
  refine y_callVR (M := M_X7_multiply) (M' := M_X7_trim) rfl rfl dX7_multiply_190 m_X7_trim t_2339 t_2341 s_150 (q8662 hl o8996 o8997 w8995) rfl rfl o8996 rfl (Nat.le_of_ble_eq_true rfl) (Nat.le_of_ble_eq_true rfl) (Nat.le_of_ble_eq_true rfl) (Nat.le_of_ble_eq_true rfl) (fun h8998 f8999 w9000 => ?_)
  obtain ⟨o9001, -⟩ := w9000
  have o9002 := (f8999 272 _ (by decide) o8997)
  exact x_vret (M := M_X7_multiply) dX7_multiply_193 rfl ⟨rfl, (fr_tr f8999 (by decide) (fr_tr f8994 (by decide) (fr_tr f8987 (by decide) fr_rf))), ⟨o9002, o9001, trivial⟩⟩ (Nat.le_of_ble_eq_true rfl) (Nat.le_of_ble_eq_true rfl)
set_option maxRecDepth 10000 in
theorem q9045 {l : Launch} {E : EE} (hl : l.stackTraces = false) {h : HP} (o9023 : ob h 252 = some (.inr (10, [.ref 253, .ref 254, .ref 255, .ref 272, .ref 273]))) (o9024 : ob h 272 = some (.inl (0, 16, .inl (fun _ => 0)))) (o9025 : ob h 255 = some (.inl (5, 16, .inr (.inr (.inr (.inr (fun i => if i < 16 then some (255 + 1 + i) else none))))))) (o9026 : ob h 269 = some (.inl (0, 280, .inl (fun _ => 0)))) (o9032 : ob h 273 = some (.inl (0, 16, .inl (fun _ => 0)))) : en_C l E M_X7_multiply 2 0 0 [.ref 252, .int (Int32.ofInt 13), .int (Int32.ofInt 6), .int (Int32.ofInt 3)] h (pF none [272, 273] h (fun h' => ob h' 272 = some (.inl (0, 16, .inl (fun _ => 0))) ∧ ob h' 273 = some (.inl (0, 16, .inl (fun _ => 0))) ∧ True)) := by
  refine en_mk m_X7_multiply rfl hl (Nat.le_of_ble_eq_true rfl) ?_
  refine x_aload_n (M := M_X7_multiply) dX7_multiply_0 rfl ?_
  refine x_getf (M := M_X7_multiply) (ci := 10) (C := RX7) (T := TX7) (N := 5) (ty := tyX7) cl10 dX7_multiply_1 o9023 3 (by decide) t_550 (v := .ref 272) rfl ?_
  refine x_iload_n (M := M_X7_multiply) dX7_multiply_4 rfl ?_
  refine x_iald (M := M_X7_multiply) dX7_multiply_5 o9024 (vp_inD (by decide +kernel)) ?_
  refine x_top (M := M_X7_multiply) (y := (Int32.ofInt 0)) (by decide +kernel) ?_
  refine x_aload_n (M := M_X7_multiply) dX7_multiply_6 rfl ?_
  refine x_getf (M := M_X7_multiply) (ci := 10) (C := RX7) (T := TX7) (N := 5) (ty := tyX7) cl10 dX7_multiply_7 o9023 3 (by decide) t_550 (v := .ref 272) rfl ?_
  refine x_iload_n (M := M_X7_multiply) dX7_multiply_10 rfl ?_
  refine x_iald (M := M_X7_multiply) dX7_multiply_11 o9024 (vp_inD (by decide +kernel)) ?_
  refine x_top (M := M_X7_multiply) (y := (Int32.ofInt 0)) (by decide +kernel) ?_
  refine x_iadd (M := M_X7_multiply) dX7_multiply_12 ?_
  refine x_sipush (M := M_X7_multiply) dX7_multiply_13 ?_
  refine x_mmin (M := M_X7_multiply) dX7_multiply_16 t_2351 t_626 t_20 t_627 (Nat.le_of_ble_eq_true rfl) (Nat.le_of_ble_eq_true rfl) (Nat.le_of_ble_eq_true rfl) (Nat.le_of_ble_eq_true rfl) ?_
  refine x_top (M := M_X7_multiply) (y := (Int32.ofInt 0)) (by decide +kernel) ?_
  refine x_istore (M := M_X7_multiply) dX7_multiply_19 (Nat.le_of_ble_eq_true rfl) rfl ?_
  refine x_aload_n (M := M_X7_multiply) dX7_multiply_21 rfl ?_
  refine x_getf (M := M_X7_multiply) (ci := 10) (C := RX7) (T := TX7) (N := 5) (ty := tyX7) cl10 dX7_multiply_22 o9023 2 (by decide) t_549 (v := .ref 255) rfl ?_
  refine x_iload_n (M := M_X7_multiply) dX7_multiply_25 rfl ?_
  refine x_gald (M := M_X7_multiply) (b := 269) dX7_multiply_26 o9025 (vp_inD (by decide +kernel)) (by decide +kernel) ?_
  refine x_iconst (M := M_X7_multiply) dX7_multiply_27 ?_
  refine x_iload (M := M_X7_multiply) dX7_multiply_28 rfl ?_
  refine x_iconst (M := M_X7_multiply) dX7_multiply_30 ?_
  refine x_callSR (M := M_X7_multiply) (M' := M_J7_fill_fda19) rfl rfl dX7_multiply_31 m_J7_fill_fda19 t_2337 t_1522 (q8599 hl o9026) rfl rfl (Nat.le_of_ble_eq_true rfl) (Nat.le_of_ble_eq_true rfl) (Nat.le_of_ble_eq_true rfl) (Nat.le_of_ble_eq_true rfl) ?_
  refine x_iconst (M := M_X7_multiply) dX7_multiply_34 ?_
  refine x_istore (M := M_X7_multiply) dX7_multiply_35 (Nat.le_of_ble_eq_true rfl) rfl ?_
  refine x_iload (M := M_X7_multiply) dX7_multiply_37 rfl ?_
  refine x_aload_n (M := M_X7_multiply) dX7_multiply_39 rfl ?_
  refine x_getf (M := M_X7_multiply) (ci := 10) (C := RX7) (T := TX7) (N := 5) (ty := tyX7) cl10 dX7_multiply_40 o9023 3 (by decide) t_550 (v := .ref 272) rfl ?_
  refine x_iload_n (M := M_X7_multiply) dX7_multiply_43 rfl ?_
  refine x_iald (M := M_X7_multiply) dX7_multiply_44 o9024 (vp_inD (by decide +kernel)) ?_
  refine x_top (M := M_X7_multiply) (y := (Int32.ofInt 0)) (by decide +kernel) ?_
  refine x_icmp_ge (M := M_X7_multiply) (tgt := 161) dX7_multiply_45 (by decide) (fun _ => ?_) (fun q => absurd q (by decide +kernel))
  refine x_aload_n (M := M_X7_multiply) dX7_multiply_161 rfl ?_
  refine x_getf (M := M_X7_multiply) (ci := 10) (C := RX7) (T := TX7) (N := 5) (ty := tyX7) cl10 dX7_multiply_162 o9023 3 (by decide) t_550 (v := .ref 272) rfl ?_
  refine x_iload_n (M := M_X7_multiply) dX7_multiply_165 rfl ?_
  refine x_iload (M := M_X7_multiply) dX7_multiply_166 rfl ?_
  refine y_iast (M := M_X7_multiply) (k := 13) dX7_multiply_168 o9024 (vp_inD (by decide +kernel)) (by decide +kernel) (fun h9027 w9028 f9029 => ?_)
  have w9030 : ob h9027 272 = some (.inl (0, 16, .inl (fun _ => 0))) := by rw [w9028, up_z (k := 13)]
  refine x_aload_n (M := M_X7_multiply) dX7_multiply_169 rfl ?_
  have o9031 := (f9029 252 _ (by decide) o9023)
  refine x_getf (M := M_X7_multiply) (ci := 10) (C := RX7) (T := TX7) (N := 5) (ty := tyX7) cl10 dX7_multiply_170 o9031 4 (by decide) t_551 (v := .ref 273) rfl ?_
  refine x_iload_n (M := M_X7_multiply) dX7_multiply_173 rfl ?_
  refine x_aload_n (M := M_X7_multiply) dX7_multiply_174 rfl ?_
  refine x_getf (M := M_X7_multiply) (ci := 10) (C := RX7) (T := TX7) (N := 5) (ty := tyX7) cl10 dX7_multiply_175 o9031 4 (by decide) t_551 (v := .ref 273) rfl ?_
  refine x_iload_n (M := M_X7_multiply) dX7_multiply_178 rfl ?_
  have o9033 := (f9029 273 _ (by decide) o9032)
  refine x_iald (M := M_X7_multiply) dX7_multiply_179 o9033 (vp_inD (by decide +kernel)) ?_
  refine x_top (M := M_X7_multiply) (y := (Int32.ofInt 0)) (by decide +kernel) ?_
  refine x_aload_n (M := M_X7_multiply) dX7_multiply_180 rfl ?_
  refine x_getf (M := M_X7_multiply) (ci := 10) (C := RX7) (T := TX7) (N := 5) (ty := tyX7) cl10 dX7_multiply_181 o9031 4 (by decide) t_551 (v := .ref 273) rfl ?_
  refine x_iload_n (M := M_X7_multiply) dX7_multiply_184 rfl ?_
  refine x_iald (M := M_X7_multiply) dX7_multiply_185 o9033 (vp_inD (by decide +kernel)) ?_
  refine x_top (M := M_X7_multiply) (y := (Int32.ofInt 0)) (by decide +kernel) ?_
  refine x_imul (M := M_X7_multiply) dX7_multiply_186 ?_
  refine x_norm (M := M_X7_multiply) (st' := [.int (Int32.ofInt 0), .int (Int32.ofInt 13), .ref 273]) rfl (vi_cons (by decide +kernel : ((Int32.ofInt 0) * (Int32.ofInt 0)) = (Int32.ofInt 0)) rfl) rfl rfl rfl ?_
  refine y_iast (M := M_X7_multiply) (k := 13) dX7_multiply_187 o9033 (vp_inD (by decide +kernel)) (by decide +kernel) (fun h9034 w9035 f9036 => ?_)
  have w9037 : ob h9034 273 = some (.inl (0, 16, .inl (fun _ => 0))) := by rw [w9035, up_z (k := 13)]
  refine x_aload_n (M := M_X7_multiply) dX7_multiply_188 rfl ?_
  refine x_iload_n (M := M_X7_multiply) dX7_multiply_189 rfl ?_
  have o9038 := (f9036 252 _ (by decide) o9031)
  have o9039 := (f9036 272 _ (by decide) w9030)
  refine y_callVR (M := M_X7_multiply) (M' := M_X7_trim) rfl rfl dX7_multiply_190 m_X7_trim t_2339 t_2341 s_150 (q8619 hl o9038 o9039 w9037) rfl rfl o9038 rfl (Nat.le_of_ble_eq_true rfl) (Nat.le_of_ble_eq_true rfl) (Nat.le_of_ble_eq_true rfl) (Nat.le_of_ble_eq_true rfl) (fun h9040 f9041 w9042 => ?_)
  obtain ⟨o9043, -⟩ := w9042
  have o9044 := (f9041 272 _ (by decide) o9039)
  exact x_vret (M := M_X7_multiply) dX7_multiply_193 rfl ⟨rfl, (fr_tr f9041 (by decide) (fr_tr f9036 (by decide) (fr_tr f9029 (by decide) fr_rf))), ⟨o9044, o9043, trivial⟩⟩ (Nat.le_of_ble_eq_true rfl) (Nat.le_of_ble_eq_true rfl)
set_option maxRecDepth 10000 in
theorem q9076 {l : Launch} {E : EE} (hl : l.stackTraces = false) {h : HP} (o9054 : ob h 252 = some (.inr (10, [.ref 253, .ref 254, .ref 255, .ref 272, .ref 273]))) (o9055 : ob h 272 = some (.inl (0, 16, .inl (fun _ => 0)))) (o9056 : ob h 255 = some (.inl (5, 16, .inr (.inr (.inr (.inr (fun i => if i < 16 then some (255 + 1 + i) else none))))))) (o9057 : ob h 270 = some (.inl (0, 280, .inl (fun _ => 0)))) (o9063 : ob h 273 = some (.inl (0, 16, .inl (fun _ => 0)))) : en_C l E M_X7_multiply 2 0 0 [.ref 252, .int (Int32.ofInt 14), .int (Int32.ofInt 7), .int (Int32.ofInt 2)] h (pF none [272, 273] h (fun h' => ob h' 272 = some (.inl (0, 16, .inl (fun _ => 0))) ∧ ob h' 273 = some (.inl (0, 16, .inl (fun _ => 0))) ∧ True)) := by
  refine en_mk m_X7_multiply rfl hl (Nat.le_of_ble_eq_true rfl) ?_
  refine x_aload_n (M := M_X7_multiply) dX7_multiply_0 rfl ?_
  refine x_getf (M := M_X7_multiply) (ci := 10) (C := RX7) (T := TX7) (N := 5) (ty := tyX7) cl10 dX7_multiply_1 o9054 3 (by decide) t_550 (v := .ref 272) rfl ?_
  refine x_iload_n (M := M_X7_multiply) dX7_multiply_4 rfl ?_
  refine x_iald (M := M_X7_multiply) dX7_multiply_5 o9055 (vp_inD (by decide +kernel)) ?_
  refine x_top (M := M_X7_multiply) (y := (Int32.ofInt 0)) (by decide +kernel) ?_
  refine x_aload_n (M := M_X7_multiply) dX7_multiply_6 rfl ?_
  refine x_getf (M := M_X7_multiply) (ci := 10) (C := RX7) (T := TX7) (N := 5) (ty := tyX7) cl10 dX7_multiply_7 o9054 3 (by decide) t_550 (v := .ref 272) rfl ?_
  refine x_iload_n (M := M_X7_multiply) dX7_multiply_10 rfl ?_
  refine x_iald (M := M_X7_multiply) dX7_multiply_11 o9055 (vp_inD (by decide +kernel)) ?_
  refine x_top (M := M_X7_multiply) (y := (Int32.ofInt 0)) (by decide +kernel) ?_
  refine x_iadd (M := M_X7_multiply) dX7_multiply_12 ?_
  refine x_sipush (M := M_X7_multiply) dX7_multiply_13 ?_
  refine x_mmin (M := M_X7_multiply) dX7_multiply_16 t_2351 t_626 t_20 t_627 (Nat.le_of_ble_eq_true rfl) (Nat.le_of_ble_eq_true rfl) (Nat.le_of_ble_eq_true rfl) (Nat.le_of_ble_eq_true rfl) ?_
  refine x_top (M := M_X7_multiply) (y := (Int32.ofInt 0)) (by decide +kernel) ?_
  refine x_istore (M := M_X7_multiply) dX7_multiply_19 (Nat.le_of_ble_eq_true rfl) rfl ?_
  refine x_aload_n (M := M_X7_multiply) dX7_multiply_21 rfl ?_
  refine x_getf (M := M_X7_multiply) (ci := 10) (C := RX7) (T := TX7) (N := 5) (ty := tyX7) cl10 dX7_multiply_22 o9054 2 (by decide) t_549 (v := .ref 255) rfl ?_
  refine x_iload_n (M := M_X7_multiply) dX7_multiply_25 rfl ?_
  refine x_gald (M := M_X7_multiply) (b := 270) dX7_multiply_26 o9056 (vp_inD (by decide +kernel)) (by decide +kernel) ?_
  refine x_iconst (M := M_X7_multiply) dX7_multiply_27 ?_
  refine x_iload (M := M_X7_multiply) dX7_multiply_28 rfl ?_
  refine x_iconst (M := M_X7_multiply) dX7_multiply_30 ?_
  refine x_callSR (M := M_X7_multiply) (M' := M_J7_fill_fda19) rfl rfl dX7_multiply_31 m_J7_fill_fda19 t_2337 t_1522 (q8642 hl o9057) rfl rfl (Nat.le_of_ble_eq_true rfl) (Nat.le_of_ble_eq_true rfl) (Nat.le_of_ble_eq_true rfl) (Nat.le_of_ble_eq_true rfl) ?_
  refine x_iconst (M := M_X7_multiply) dX7_multiply_34 ?_
  refine x_istore (M := M_X7_multiply) dX7_multiply_35 (Nat.le_of_ble_eq_true rfl) rfl ?_
  refine x_iload (M := M_X7_multiply) dX7_multiply_37 rfl ?_
  refine x_aload_n (M := M_X7_multiply) dX7_multiply_39 rfl ?_
  refine x_getf (M := M_X7_multiply) (ci := 10) (C := RX7) (T := TX7) (N := 5) (ty := tyX7) cl10 dX7_multiply_40 o9054 3 (by decide) t_550 (v := .ref 272) rfl ?_
  refine x_iload_n (M := M_X7_multiply) dX7_multiply_43 rfl ?_
  refine x_iald (M := M_X7_multiply) dX7_multiply_44 o9055 (vp_inD (by decide +kernel)) ?_
  refine x_top (M := M_X7_multiply) (y := (Int32.ofInt 0)) (by decide +kernel) ?_
  refine x_icmp_ge (M := M_X7_multiply) (tgt := 161) dX7_multiply_45 (by decide) (fun _ => ?_) (fun q => absurd q (by decide +kernel))
  refine x_aload_n (M := M_X7_multiply) dX7_multiply_161 rfl ?_
  refine x_getf (M := M_X7_multiply) (ci := 10) (C := RX7) (T := TX7) (N := 5) (ty := tyX7) cl10 dX7_multiply_162 o9054 3 (by decide) t_550 (v := .ref 272) rfl ?_
  refine x_iload_n (M := M_X7_multiply) dX7_multiply_165 rfl ?_
  refine x_iload (M := M_X7_multiply) dX7_multiply_166 rfl ?_
  refine y_iast (M := M_X7_multiply) (k := 14) dX7_multiply_168 o9055 (vp_inD (by decide +kernel)) (by decide +kernel) (fun h9058 w9059 f9060 => ?_)
  have w9061 : ob h9058 272 = some (.inl (0, 16, .inl (fun _ => 0))) := by rw [w9059, up_z (k := 14)]
  refine x_aload_n (M := M_X7_multiply) dX7_multiply_169 rfl ?_
  have o9062 := (f9060 252 _ (by decide) o9054)
  refine x_getf (M := M_X7_multiply) (ci := 10) (C := RX7) (T := TX7) (N := 5) (ty := tyX7) cl10 dX7_multiply_170 o9062 4 (by decide) t_551 (v := .ref 273) rfl ?_
  refine x_iload_n (M := M_X7_multiply) dX7_multiply_173 rfl ?_
  refine x_aload_n (M := M_X7_multiply) dX7_multiply_174 rfl ?_
  refine x_getf (M := M_X7_multiply) (ci := 10) (C := RX7) (T := TX7) (N := 5) (ty := tyX7) cl10 dX7_multiply_175 o9062 4 (by decide) t_551 (v := .ref 273) rfl ?_
  refine x_iload_n (M := M_X7_multiply) dX7_multiply_178 rfl ?_
  have o9064 := (f9060 273 _ (by decide) o9063)
  refine x_iald (M := M_X7_multiply) dX7_multiply_179 o9064 (vp_inD (by decide +kernel)) ?_
  refine x_top (M := M_X7_multiply) (y := (Int32.ofInt 0)) (by decide +kernel) ?_
  refine x_aload_n (M := M_X7_multiply) dX7_multiply_180 rfl ?_
  refine x_getf (M := M_X7_multiply) (ci := 10) (C := RX7) (T := TX7) (N := 5) (ty := tyX7) cl10 dX7_multiply_181 o9062 4 (by decide) t_551 (v := .ref 273) rfl ?_
  refine x_iload_n (M := M_X7_multiply) dX7_multiply_184 rfl ?_
  refine x_iald (M := M_X7_multiply) dX7_multiply_185 o9064 (vp_inD (by decide +kernel)) ?_
  refine x_top (M := M_X7_multiply) (y := (Int32.ofInt 0)) (by decide +kernel) ?_
  refine x_imul (M := M_X7_multiply) dX7_multiply_186 ?_
  refine x_norm (M := M_X7_multiply) (st' := [.int (Int32.ofInt 0), .int (Int32.ofInt 14), .ref 273]) rfl (vi_cons (by decide +kernel : ((Int32.ofInt 0) * (Int32.ofInt 0)) = (Int32.ofInt 0)) rfl) rfl rfl rfl ?_
  refine y_iast (M := M_X7_multiply) (k := 14) dX7_multiply_187 o9064 (vp_inD (by decide +kernel)) (by decide +kernel) (fun h9065 w9066 f9067 => ?_)
  have w9068 : ob h9065 273 = some (.inl (0, 16, .inl (fun _ => 0))) := by rw [w9066, up_z (k := 14)]
  refine x_aload_n (M := M_X7_multiply) dX7_multiply_188 rfl ?_
  refine x_iload_n (M := M_X7_multiply) dX7_multiply_189 rfl ?_
  have o9069 := (f9067 252 _ (by decide) o9062)
  have o9070 := (f9067 272 _ (by decide) w9061)
  refine y_callVR (M := M_X7_multiply) (M' := M_X7_trim) rfl rfl dX7_multiply_190 m_X7_trim t_2339 t_2341 s_150 (q8662 hl o9069 o9070 w9068) rfl rfl o9069 rfl (Nat.le_of_ble_eq_true rfl) (Nat.le_of_ble_eq_true rfl) (Nat.le_of_ble_eq_true rfl) (Nat.le_of_ble_eq_true rfl) (fun h9071 f9072 w9073 => ?_)
  obtain ⟨o9074, -⟩ := w9073
  have o9075 := (f9072 272 _ (by decide) o9070)
  exact x_vret (M := M_X7_multiply) dX7_multiply_193 rfl ⟨rfl, (fr_tr f9072 (by decide) (fr_tr f9067 (by decide) (fr_tr f9060 (by decide) fr_rf))), ⟨o9075, o9074, trivial⟩⟩ (Nat.le_of_ble_eq_true rfl) (Nat.le_of_ble_eq_true rfl)
set_option maxRecDepth 10000 in
theorem q9099 {l : Launch} {E : EE} (hl : l.stackTraces = false) {h : HP} (o9098 : ob h 265 = some (.inl (0, 280, .inl (fun _ => 0)))) : en_C l E M_J7_fill_fda19 1 0 0 [.ref 265, .int (Int32.ofInt 0), .int (Int32.ofInt 0), .int (Int32.ofInt 0)] h (pR none h) := by
  refine en_mk m_J7_fill_fda19 rfl hl (Nat.le_of_ble_eq_true rfl) ?_
  refine x_aload_n (M := M_J7_fill_fda19) dJ7_fill_fda19_0 rfl ?_
  refine x_alen (M := M_J7_fill_fda19) dJ7_fill_fda19_1 o9098 (by decide) ?_
  refine x_iload_n (M := M_J7_fill_fda19) dJ7_fill_fda19_2 rfl ?_
  refine x_iload_n (M := M_J7_fill_fda19) dJ7_fill_fda19_3 rfl ?_
  refine x_norm (M := M_J7_fill_fda19) (st' := [.int (Int32.ofInt 0), .int (Int32.ofInt 0), .int (Int32.ofInt 280)]) rfl (v_cons (v_cons (vi_cons (by decide +kernel : (Int32.ofNat 280) = (Int32.ofInt 280)) rfl))) rfl rfl rfl ?_
  refine x_callSR (M := M_J7_fill_fda19) (M' := M_J7_rangeCheck_23922) rfl rfl dJ7_fill_fda19_4 m_J7_rangeCheck_23922 t_1524 t_1525 (q7214 hl) rfl rfl (Nat.le_of_ble_eq_true rfl) (Nat.le_of_ble_eq_true rfl) (Nat.le_of_ble_eq_true rfl) (Nat.le_of_ble_eq_true rfl) ?_
  refine x_iload_n (M := M_J7_fill_fda19) dJ7_fill_fda19_7 rfl ?_
  refine x_istore (M := M_J7_fill_fda19) dJ7_fill_fda19_8 (Nat.le_of_ble_eq_true rfl) rfl ?_
  refine x_iload (M := M_J7_fill_fda19) dJ7_fill_fda19_10 rfl ?_
  refine x_iload_n (M := M_J7_fill_fda19) dJ7_fill_fda19_12 rfl ?_
  refine x_icmp_ge (M := M_J7_fill_fda19) (tgt := 27) dJ7_fill_fda19_13 (by decide) (fun _ => ?_) (fun q => absurd q (by decide +kernel))
  exact x_vret (M := M_J7_fill_fda19) dJ7_fill_fda19_27 rfl ⟨rfl, rfl⟩ (Nat.le_of_ble_eq_true rfl) (Nat.le_of_ble_eq_true rfl)
set_option maxRecDepth 10000 in
theorem q9119 {l : Launch} {E : EE} (hl : l.stackTraces = false) {h : HP} (o9112 : ob h 252 = some (.inr (10, [.ref 253, .ref 254, .ref 255, .ref 272, .ref 273]))) (o9113 : ob h 272 = some (.inl (0, 16, .inl (fun _ => 0)))) (o9114 : ob h 273 = some (.inl (0, 16, .inl (fun _ => 0)))) : en_C l E M_X7_trim 0 0 0 [.ref 252, .int (Int32.ofInt 9)] h (pF none [273] h (fun h' => ob h' 273 = some (.inl (0, 16, .inl (fun _ => 0))) ∧ True)) := by
  refine en_mk m_X7_trim rfl hl (Nat.le_of_ble_eq_true rfl) ?_
  refine x_aload_n (M := M_X7_trim) dX7_trim_0 rfl ?_
  refine x_getf (M := M_X7_trim) (ci := 10) (C := RX7) (T := TX7) (N := 5) (ty := tyX7) cl10 dX7_trim_1 o9112 3 (by decide) t_550 (v := .ref 272) rfl ?_
  refine x_iload_n (M := M_X7_trim) dX7_trim_4 rfl ?_
  refine x_iald (M := M_X7_trim) dX7_trim_5 o9113 (vp_inD (by decide +kernel)) ?_
  refine x_top (M := M_X7_trim) (y := (Int32.ofInt 0)) (by decide +kernel) ?_
  refine x_if_le (M := M_X7_trim) (tgt := 40) dX7_trim_6 (by decide) (fun _ => ?_) (fun q => absurd q (by decide +kernel))
  refine x_aload_n (M := M_X7_trim) dX7_trim_40 rfl ?_
  refine x_getf (M := M_X7_trim) (ci := 10) (C := RX7) (T := TX7) (N := 5) (ty := tyX7) cl10 dX7_trim_41 o9112 3 (by decide) t_550 (v := .ref 272) rfl ?_
  refine x_iload_n (M := M_X7_trim) dX7_trim_44 rfl ?_
  refine x_iald (M := M_X7_trim) dX7_trim_45 o9113 (vp_inD (by decide +kernel)) ?_
  refine x_top (M := M_X7_trim) (y := (Int32.ofInt 0)) (by decide +kernel) ?_
  refine x_if_ne (M := M_X7_trim) (tgt := 56) dX7_trim_46 (by decide) (fun q => absurd q (by decide +kernel)) (fun _ => ?_)
  refine x_aload_n (M := M_X7_trim) dX7_trim_49 rfl ?_
  refine x_getf (M := M_X7_trim) (ci := 10) (C := RX7) (T := TX7) (N := 5) (ty := tyX7) cl10 dX7_trim_50 o9112 4 (by decide) t_551 (v := .ref 273) rfl ?_
  refine x_iload_n (M := M_X7_trim) dX7_trim_53 rfl ?_
  refine x_iconst (M := M_X7_trim) dX7_trim_54 ?_
  refine y_iast (M := M_X7_trim) (k := 9) dX7_trim_55 o9114 (vp_inD (by decide +kernel)) (by decide +kernel) (fun h9115 w9116 f9117 => ?_)
  have w9118 : ob h9115 273 = some (.inl (0, 16, .inl (fun _ => 0))) := by rw [w9116, up_z (k := 9)]
  exact x_vret (M := M_X7_trim) dX7_trim_56 rfl ⟨rfl, (fr_tr f9117 (by decide) fr_rf), ⟨w9118, trivial⟩⟩ (Nat.le_of_ble_eq_true rfl) (Nat.le_of_ble_eq_true rfl)
set_option maxRecDepth 10000 in
theorem q9127 {l : Launch} {E : EE} (hl : l.stackTraces = false) {h : HP} (o9095 : ob h 252 = some (.inr (10, [.ref 253, .ref 254, .ref 255, .ref 272, .ref 273]))) (o9096 : ob h 272 = some (.inl (0, 16, .inl (fun _ => 0)))) (o9097 : ob h 255 = some (.inl (5, 16, .inr (.inr (.inr (.inr (fun i => if i < 16 then some (255 + 1 + i) else none))))))) (o9100 : ob h 265 = some (.inl (0, 280, .inl (fun _ => 0)))) (o9106 : ob h 273 = some (.inl (0, 16, .inl (fun _ => 0)))) : en_C l E M_X7_multiply 2 0 0 [.ref 252, .int (Int32.ofInt 9), .int (Int32.ofInt 15), .int (Int32.ofInt 0)] h (pF none [272, 273] h (fun h' => ob h' 272 = some (.inl (0, 16, .inl (fun _ => 0))) ∧ ob h' 273 = some (.inl (0, 16, .inl (fun _ => 0))) ∧ True)) := by
  refine en_mk m_X7_multiply rfl hl (Nat.le_of_ble_eq_true rfl) ?_
  refine x_aload_n (M := M_X7_multiply) dX7_multiply_0 rfl ?_
  refine x_getf (M := M_X7_multiply) (ci := 10) (C := RX7) (T := TX7) (N := 5) (ty := tyX7) cl10 dX7_multiply_1 o9095 3 (by decide) t_550 (v := .ref 272) rfl ?_
  refine x_iload_n (M := M_X7_multiply) dX7_multiply_4 rfl ?_
  refine x_iald (M := M_X7_multiply) dX7_multiply_5 o9096 (vp_inD (by decide +kernel)) ?_
  refine x_top (M := M_X7_multiply) (y := (Int32.ofInt 0)) (by decide +kernel) ?_
  refine x_aload_n (M := M_X7_multiply) dX7_multiply_6 rfl ?_
  refine x_getf (M := M_X7_multiply) (ci := 10) (C := RX7) (T := TX7) (N := 5) (ty := tyX7) cl10 dX7_multiply_7 o9095 3 (by decide) t_550 (v := .ref 272) rfl ?_
  refine x_iload_n (M := M_X7_multiply) dX7_multiply_10 rfl ?_
  refine x_iald (M := M_X7_multiply) dX7_multiply_11 o9096 (vp_inD (by decide +kernel)) ?_
  refine x_top (M := M_X7_multiply) (y := (Int32.ofInt 0)) (by decide +kernel) ?_
  refine x_iadd (M := M_X7_multiply) dX7_multiply_12 ?_
  refine x_sipush (M := M_X7_multiply) dX7_multiply_13 ?_
  refine x_mmin (M := M_X7_multiply) dX7_multiply_16 t_2351 t_626 t_20 t_627 (Nat.le_of_ble_eq_true rfl) (Nat.le_of_ble_eq_true rfl) (Nat.le_of_ble_eq_true rfl) (Nat.le_of_ble_eq_true rfl) ?_
  refine x_top (M := M_X7_multiply) (y := (Int32.ofInt 0)) (by decide +kernel) ?_
  refine x_istore (M := M_X7_multiply) dX7_multiply_19 (Nat.le_of_ble_eq_true rfl) rfl ?_
  refine x_aload_n (M := M_X7_multiply) dX7_multiply_21 rfl ?_
  refine x_getf (M := M_X7_multiply) (ci := 10) (C := RX7) (T := TX7) (N := 5) (ty := tyX7) cl10 dX7_multiply_22 o9095 2 (by decide) t_549 (v := .ref 255) rfl ?_
  refine x_iload_n (M := M_X7_multiply) dX7_multiply_25 rfl ?_
  refine x_gald (M := M_X7_multiply) (b := 265) dX7_multiply_26 o9097 (vp_inD (by decide +kernel)) (by decide +kernel) ?_
  refine x_iconst (M := M_X7_multiply) dX7_multiply_27 ?_
  refine x_iload (M := M_X7_multiply) dX7_multiply_28 rfl ?_
  refine x_iconst (M := M_X7_multiply) dX7_multiply_30 ?_
  refine x_callSR (M := M_X7_multiply) (M' := M_J7_fill_fda19) rfl rfl dX7_multiply_31 m_J7_fill_fda19 t_2337 t_1522 (q9099 hl o9100) rfl rfl (Nat.le_of_ble_eq_true rfl) (Nat.le_of_ble_eq_true rfl) (Nat.le_of_ble_eq_true rfl) (Nat.le_of_ble_eq_true rfl) ?_
  refine x_iconst (M := M_X7_multiply) dX7_multiply_34 ?_
  refine x_istore (M := M_X7_multiply) dX7_multiply_35 (Nat.le_of_ble_eq_true rfl) rfl ?_
  refine x_iload (M := M_X7_multiply) dX7_multiply_37 rfl ?_
  refine x_aload_n (M := M_X7_multiply) dX7_multiply_39 rfl ?_
  refine x_getf (M := M_X7_multiply) (ci := 10) (C := RX7) (T := TX7) (N := 5) (ty := tyX7) cl10 dX7_multiply_40 o9095 3 (by decide) t_550 (v := .ref 272) rfl ?_
  refine x_iload_n (M := M_X7_multiply) dX7_multiply_43 rfl ?_
  refine x_iald (M := M_X7_multiply) dX7_multiply_44 o9096 (vp_inD (by decide +kernel)) ?_
  refine x_top (M := M_X7_multiply) (y := (Int32.ofInt 0)) (by decide +kernel) ?_
  refine x_icmp_ge (M := M_X7_multiply) (tgt := 161) dX7_multiply_45 (by decide) (fun _ => ?_) (fun q => absurd q (by decide +kernel))
  refine x_aload_n (M := M_X7_multiply) dX7_multiply_161 rfl ?_
  refine x_getf (M := M_X7_multiply) (ci := 10) (C := RX7) (T := TX7) (N := 5) (ty := tyX7) cl10 dX7_multiply_162 o9095 3 (by decide) t_550 (v := .ref 272) rfl ?_
  refine x_iload_n (M := M_X7_multiply) dX7_multiply_165 rfl ?_
  refine x_iload (M := M_X7_multiply) dX7_multiply_166 rfl ?_
  refine y_iast (M := M_X7_multiply) (k := 9) dX7_multiply_168 o9096 (vp_inD (by decide +kernel)) (by decide +kernel) (fun h9101 w9102 f9103 => ?_)
  have w9104 : ob h9101 272 = some (.inl (0, 16, .inl (fun _ => 0))) := by rw [w9102, up_z (k := 9)]
  refine x_aload_n (M := M_X7_multiply) dX7_multiply_169 rfl ?_
  have o9105 := (f9103 252 _ (by decide) o9095)
  refine x_getf (M := M_X7_multiply) (ci := 10) (C := RX7) (T := TX7) (N := 5) (ty := tyX7) cl10 dX7_multiply_170 o9105 4 (by decide) t_551 (v := .ref 273) rfl ?_
  refine x_iload_n (M := M_X7_multiply) dX7_multiply_173 rfl ?_
  refine x_aload_n (M := M_X7_multiply) dX7_multiply_174 rfl ?_
  refine x_getf (M := M_X7_multiply) (ci := 10) (C := RX7) (T := TX7) (N := 5) (ty := tyX7) cl10 dX7_multiply_175 o9105 4 (by decide) t_551 (v := .ref 273) rfl ?_
  refine x_iload_n (M := M_X7_multiply) dX7_multiply_178 rfl ?_
  have o9107 := (f9103 273 _ (by decide) o9106)
  refine x_iald (M := M_X7_multiply) dX7_multiply_179 o9107 (vp_inD (by decide +kernel)) ?_
  refine x_top (M := M_X7_multiply) (y := (Int32.ofInt 0)) (by decide +kernel) ?_
  refine x_aload_n (M := M_X7_multiply) dX7_multiply_180 rfl ?_
  refine x_getf (M := M_X7_multiply) (ci := 10) (C := RX7) (T := TX7) (N := 5) (ty := tyX7) cl10 dX7_multiply_181 o9105 4 (by decide) t_551 (v := .ref 273) rfl ?_
  refine x_iload_n (M := M_X7_multiply) dX7_multiply_184 rfl ?_
  refine x_iald (M := M_X7_multiply) dX7_multiply_185 o9107 (vp_inD (by decide +kernel)) ?_
  refine x_top (M := M_X7_multiply) (y := (Int32.ofInt 0)) (by decide +kernel) ?_
  refine x_imul (M := M_X7_multiply) dX7_multiply_186 ?_
  refine x_norm (M := M_X7_multiply) (st' := [.int (Int32.ofInt 0), .int (Int32.ofInt 9), .ref 273]) rfl (vi_cons (by decide +kernel : ((Int32.ofInt 0) * (Int32.ofInt 0)) = (Int32.ofInt 0)) rfl) rfl rfl rfl ?_
  refine y_iast (M := M_X7_multiply) (k := 9) dX7_multiply_187 o9107 (vp_inD (by decide +kernel)) (by decide +kernel) (fun h9108 w9109 f9110 => ?_)
  have w9111 : ob h9108 273 = some (.inl (0, 16, .inl (fun _ => 0))) := by rw [w9109, up_z (k := 9)]
  refine x_aload_n (M := M_X7_multiply) dX7_multiply_188 rfl ?_
  refine x_iload_n (M := M_X7_multiply) dX7_multiply_189 rfl ?_
  have o9120 := (f9110 252 _ (by decide) o9105)
  have o9121 := (f9110 272 _ (by decide) w9104)
  refine y_callVR (M := M_X7_multiply) (M' := M_X7_trim) rfl rfl dX7_multiply_190 m_X7_trim t_2339 t_2341 s_150 (q9119 hl o9120 o9121 w9111) rfl rfl o9120 rfl (Nat.le_of_ble_eq_true rfl) (Nat.le_of_ble_eq_true rfl) (Nat.le_of_ble_eq_true rfl) (Nat.le_of_ble_eq_true rfl) (fun h9122 f9123 w9124 => ?_)
  obtain ⟨o9125, -⟩ := w9124
  have o9126 := (f9123 272 _ (by decide) o9121)
  exact x_vret (M := M_X7_multiply) dX7_multiply_193 rfl ⟨rfl, (fr_tr f9123 (by decide) (fr_tr f9110 (by decide) (fr_tr f9103 (by decide) fr_rf))), ⟨o9126, o9125, trivial⟩⟩ (Nat.le_of_ble_eq_true rfl) (Nat.le_of_ble_eq_true rfl)
set_option maxRecDepth 10000 in
theorem q9139 {l : Launch} {E : EE} (hl : l.stackTraces = false) {h : HP} (o8971 : ob h 252 = some (.inr (10, [.ref 253, .ref 254, .ref 255, .ref 272, .ref 273]))) (o8972 : ob h 272 = some (.inl (0, 16, .inl (fun _ => 0)))) (o8973 : ob h 255 = some (.inl (5, 16, .inr (.inr (.inr (.inr (fun i => if i < 16 then some (255 + 1 + i) else none))))))) (o8974 : ob h 269 = some (.inl (0, 280, .inl (fun _ => 0)))) (o8975 : ob h 273 = some (.inl (0, 16, .inl (fun _ => 0)))) (o9006 : ob h 270 = some (.inl (0, 280, .inl (fun _ => 0)))) (o9015 : ob h 271 = some (.inl (0, 280, .inl (fun _ => 0)))) (o9087 : ob h 256 = some (.inl (0, 280, .inl (fun _ => 0)))) (o9130 : ob h 265 = some (.inl (0, 280, .inl (fun _ => 0)))) : en_C l E M_X7_putTerm 3 0 0 [.ref 252, .int (Int32.ofInt 9), .int (Int32.ofInt 4), .int (Int32.ofInt 6), .int (Int32.ofInt 2)] h (pF none [272, 273, 271, 256] h (fun h' => ob h' 272 = some (.inl (0, 16, .inl (fun _ => 0))) ∧ ob h' 273 = some (.inl (0, 16, .inl (fun _ => 0))) ∧ ob h' 271 = some (.inl (0, 280, .inl (fun _ => 0))) ∧ ob h' 256 = some (.inl (0, 280, .inl (fun _ => 0))) ∧ True)) := by
  refine en_mk m_X7_putTerm rfl hl (Nat.le_of_ble_eq_true rfl) ?_
  refine x_aload_n (M := M_X7_putTerm) dX7_putTerm_0 rfl ?_
  refine x_bipush (M := M_X7_putTerm) dX7_putTerm_1 ?_
  refine x_iload_n (M := M_X7_putTerm) dX7_putTerm_3 rfl ?_
  refine x_iload_n (M := M_X7_putTerm) dX7_putTerm_4 rfl ?_
  refine x_norm (M := M_X7_putTerm) (st' := [.int (Int32.ofInt 4), .int (Int32.ofInt 4), .int (Int32.ofInt 13), .ref 252]) rfl (v_cons (v_cons (vi_cons (by decide +kernel : ((Int8.ofInt 13).toInt32) = (Int32.ofInt 13)) rfl))) rfl rfl rfl ?_
  refine y_callVR (M := M_X7_putTerm) (M' := M_X7_multiply) rfl rfl dX7_putTerm_5 m_X7_multiply t_2360 t_2362 s_155 (q8970 hl o8971 o8972 o8973 o8974 o8975) rfl rfl o8971 rfl (Nat.le_of_ble_eq_true rfl) (Nat.le_of_ble_eq_true rfl) (Nat.le_of_ble_eq_true rfl) (Nat.le_of_ble_eq_true rfl) (fun h8976 f8977 w8978 => ?_)
  obtain ⟨o8979, o8980, -⟩ := w8978
  refine x_aload_n (M := M_X7_putTerm) dX7_putTerm_8 rfl ?_
  refine x_bipush (M := M_X7_putTerm) dX7_putTerm_9 ?_
  refine x_iload_n (M := M_X7_putTerm) dX7_putTerm_11 rfl ?_
  refine x_iconst (M := M_X7_putTerm) dX7_putTerm_12 ?_
  refine x_iadd (M := M_X7_putTerm) dX7_putTerm_13 ?_
  refine x_iload_n (M := M_X7_putTerm) dX7_putTerm_14 rfl ?_
  refine x_iconst (M := M_X7_putTerm) dX7_putTerm_15 ?_
  refine x_iadd (M := M_X7_putTerm) dX7_putTerm_16 ?_
  refine x_norm (M := M_X7_putTerm) (st' := [.int (Int32.ofInt 5), .int (Int32.ofInt 5), .int (Int32.ofInt 14), .ref 252]) rfl (vi_cons (by decide +kernel : ((Int32.ofInt 4) + (Int32.ofInt 1)) = (Int32.ofInt 5)) (vi_cons (by decide +kernel : ((Int32.ofInt 4) + (Int32.ofInt 1)) = (Int32.ofInt 5)) (vi_cons (by decide +kernel : ((Int8.ofInt 14).toInt32) = (Int32.ofInt 14)) rfl))) rfl rfl rfl ?_
  have o9004 := (f8977 252 _ (by decide) o8971)
  have o9005 := (f8977 255 _ (by decide) o8973)
  have o9007 := (f8977 270 _ (by decide) o9006)
  refine y_callVR (M := M_X7_putTerm) (M' := M_X7_multiply) rfl rfl dX7_putTerm_17 m_X7_multiply t_2360 t_2362 s_155 (q9003 hl o9004 o8979 o9005 o9007 o8980) rfl rfl o9004 rfl (Nat.le_of_ble_eq_true rfl) (Nat.le_of_ble_eq_true rfl) (Nat.le_of_ble_eq_true rfl) (Nat.le_of_ble_eq_true rfl) (fun h9008 f9009 w9010 => ?_)
  obtain ⟨o9011, o9012, -⟩ := w9010
  refine x_aload_n (M := M_X7_putTerm) dX7_putTerm_20 rfl ?_
  refine x_bipush (M := M_X7_putTerm) dX7_putTerm_21 ?_
  refine x_bipush (M := M_X7_putTerm) dX7_putTerm_23 ?_
  refine x_bipush (M := M_X7_putTerm) dX7_putTerm_25 ?_
  refine x_iconst (M := M_X7_putTerm) dX7_putTerm_27 ?_
  refine x_norm (M := M_X7_putTerm) (st' := [.int (Int32.ofInt 1), .int (Int32.ofInt 14), .int (Int32.ofInt 13), .int (Int32.ofInt 15), .ref 252]) rfl (v_cons (vi_cons (by decide +kernel : ((Int8.ofInt 14).toInt32) = (Int32.ofInt 14)) (vi_cons (by decide +kernel : ((Int8.ofInt 13).toInt32) = (Int32.ofInt 13)) (vi_cons (by decide +kernel : ((Int8.ofInt 15).toInt32) = (Int32.ofInt 15)) rfl)))) rfl rfl rfl ?_
  have o9013 := (f9009 252 _ (by decide) o9004)
  have o9014 := (f9009 255 _ (by decide) o9005)
  have o9016 := (f9009 271 _ (by decide) (f8977 271 _ (by decide) o9015))
  refine y_callVR (M := M_X7_putTerm) (M' := M_X7_addSigned) rfl rfl dX7_putTerm_28 m_X7_addSigned t_2343 t_2345 s_151 (q8744 hl o9013 o9012 o9011 o9014 o9016) rfl rfl o9013 rfl (Nat.le_of_ble_eq_true rfl) (Nat.le_of_ble_eq_true rfl) (Nat.le_of_ble_eq_true rfl) (Nat.le_of_ble_eq_true rfl) (fun h9017 f9018 w9019 => ?_)
  obtain ⟨o9020, o9021, o9022, -⟩ := w9019
  refine x_aload_n (M := M_X7_putTerm) dX7_putTerm_31 rfl ?_
  refine x_bipush (M := M_X7_putTerm) dX7_putTerm_32 ?_
  refine x_iload_n (M := M_X7_putTerm) dX7_putTerm_34 rfl ?_
  refine x_iload (M := M_X7_putTerm) dX7_putTerm_35 rfl ?_
  refine x_iconst (M := M_X7_putTerm) dX7_putTerm_37 ?_
  refine x_iadd (M := M_X7_putTerm) dX7_putTerm_38 ?_
  refine x_norm (M := M_X7_putTerm) (st' := [.int (Int32.ofInt 3), .int (Int32.ofInt 6), .int (Int32.ofInt 13), .ref 252]) rfl (vi_cons (by decide +kernel : ((Int32.ofInt 2) + (Int32.ofInt 1)) = (Int32.ofInt 3)) (v_cons (vi_cons (by decide +kernel : ((Int8.ofInt 13).toInt32) = (Int32.ofInt 13)) rfl))) rfl rfl rfl ?_
  have o9046 := (f9018 252 _ (by decide) o9013)
  have o9047 := (f9018 255 _ (by decide) o9014)
  have o9048 := (f9018 269 _ (by decide) (f9009 269 _ (by decide) (f8977 269 _ (by decide) o8974)))
  refine y_callVR (M := M_X7_putTerm) (M' := M_X7_multiply) rfl rfl dX7_putTerm_39 m_X7_multiply t_2360 t_2362 s_155 (q9045 hl o9046 o9021 o9047 o9048 o9022) rfl rfl o9046 rfl (Nat.le_of_ble_eq_true rfl) (Nat.le_of_ble_eq_true rfl) (Nat.le_of_ble_eq_true rfl) (Nat.le_of_ble_eq_true rfl) (fun h9049 f9050 w9051 => ?_)
  obtain ⟨o9052, o9053, -⟩ := w9051
  refine x_aload_n (M := M_X7_putTerm) dX7_putTerm_42 rfl ?_
  refine x_bipush (M := M_X7_putTerm) dX7_putTerm_43 ?_
  refine x_iload_n (M := M_X7_putTerm) dX7_putTerm_45 rfl ?_
  refine x_iconst (M := M_X7_putTerm) dX7_putTerm_46 ?_
  refine x_iadd (M := M_X7_putTerm) dX7_putTerm_47 ?_
  refine x_iload (M := M_X7_putTerm) dX7_putTerm_48 rfl ?_
  refine x_norm (M := M_X7_putTerm) (st' := [.int (Int32.ofInt 2), .int (Int32.ofInt 7), .int (Int32.ofInt 14), .ref 252]) rfl (v_cons (vi_cons (by decide +kernel : ((Int32.ofInt 6) + (Int32.ofInt 1)) = (Int32.ofInt 7)) (vi_cons (by decide +kernel : ((Int8.ofInt 14).toInt32) = (Int32.ofInt 14)) rfl))) rfl rfl rfl ?_
  have o9077 := (f9050 252 _ (by decide) o9046)
  have o9078 := (f9050 255 _ (by decide) o9047)
  have o9079 := (f9050 270 _ (by decide) (f9018 270 _ (by decide) (f9009 270 _ (by decide) o9007)))
  refine y_callVR (M := M_X7_putTerm) (M' := M_X7_multiply) rfl rfl dX7_putTerm_50 m_X7_multiply t_2360 t_2362 s_155 (q9076 hl o9077 o9052 o9078 o9079 o9053) rfl rfl o9077 rfl (Nat.le_of_ble_eq_true rfl) (Nat.le_of_ble_eq_true rfl) (Nat.le_of_ble_eq_true rfl) (Nat.le_of_ble_eq_true rfl) (fun h9080 f9081 w9082 => ?_)
  obtain ⟨o9083, o9084, -⟩ := w9082
  refine x_aload_n (M := M_X7_putTerm) dX7_putTerm_53 rfl ?_
  refine x_iconst (M := M_X7_putTerm) dX7_putTerm_54 ?_
  refine x_bipush (M := M_X7_putTerm) dX7_putTerm_55 ?_
  refine x_bipush (M := M_X7_putTerm) dX7_putTerm_57 ?_
  refine x_iconst (M := M_X7_putTerm) dX7_putTerm_59 ?_
  refine x_norm (M := M_X7_putTerm) (st' := [.int (Int32.ofInt (-1)), .int (Int32.ofInt 14), .int (Int32.ofInt 13), .int (Int32.ofInt 0), .ref 252]) rfl (v_cons (vi_cons (by decide +kernel : ((Int8.ofInt 14).toInt32) = (Int32.ofInt 14)) (vi_cons (by decide +kernel : ((Int8.ofInt 13).toInt32) = (Int32.ofInt 13)) rfl))) rfl rfl rfl ?_
  have o9085 := (f9081 252 _ (by decide) o9077)
  have o9086 := (f9081 255 _ (by decide) o9078)
  have o9088 := (f9081 256 _ (by decide) (f9050 256 _ (by decide) (f9018 256 _ (by decide) (f9009 256 _ (by decide) (f8977 256 _ (by decide) o9087)))))
  refine y_callVR (M := M_X7_putTerm) (M' := M_X7_addSigned) rfl rfl dX7_putTerm_60 m_X7_addSigned t_2343 t_2345 s_151 (q8875 hl o9085 o9084 o9083 o9086 o9088) rfl rfl o9085 rfl (Nat.le_of_ble_eq_true rfl) (Nat.le_of_ble_eq_true rfl) (Nat.le_of_ble_eq_true rfl) (Nat.le_of_ble_eq_true rfl) (fun h9089 f9090 w9091 => ?_)
  obtain ⟨o9092, o9093, o9094, -⟩ := w9091
  refine x_aload_n (M := M_X7_putTerm) dX7_putTerm_63 rfl ?_
  refine x_iload_n (M := M_X7_putTerm) dX7_putTerm_64 rfl ?_
  refine x_bipush (M := M_X7_putTerm) dX7_putTerm_65 ?_
  refine x_iconst (M := M_X7_putTerm) dX7_putTerm_67 ?_
  refine x_norm (M := M_X7_putTerm) (st' := [.int (Int32.ofInt 0), .int (Int32.ofInt 15), .int (Int32.ofInt 9), .ref 252]) rfl (v_cons (vi_cons (by decide +kernel : ((Int8.ofInt 15).toInt32) = (Int32.ofInt 15)) rfl)) rfl rfl rfl ?_
  have o9128 := (f9090 252 _ (by decide) o9085)
  have o9129 := (f9090 255 _ (by decide) o9086)
  have o9131 := (f9090 265 _ (by decide) (f9081 265 _ (by decide) (f9050 265 _ (by decide) (f9018 265 _ (by decide) (f9009 265 _ (by decide) (f8977 265 _ (by decide) o9130))))))
  refine y_callVR (M := M_X7_putTerm) (M' := M_X7_multiply) rfl rfl dX7_putTerm_68 m_X7_multiply t_2360 t_2362 s_155 (q9127 hl o9128 o9093 o9129 o9131 o9094) rfl rfl o9128 rfl (Nat.le_of_ble_eq_true rfl) (Nat.le_of_ble_eq_true rfl) (Nat.le_of_ble_eq_true rfl) (Nat.le_of_ble_eq_true rfl) (fun h9132 f9133 w9134 => ?_)
  obtain ⟨o9135, o9136, -⟩ := w9134
  have o9137 := (f9133 271 _ (by decide) (f9090 271 _ (by decide) (f9081 271 _ (by decide) (f9050 271 _ (by decide) o9020))))
  have o9138 := (f9133 256 _ (by decide) o9092)
  exact x_vret (M := M_X7_putTerm) dX7_putTerm_71 rfl ⟨rfl, (fr_tr f9133 (by decide) (fr_tr f9090 (by decide) (fr_tr f9081 (by decide) (fr_tr f9050 (by decide) (fr_tr f9018 (by decide) (fr_tr f9009 (by decide) (fr_tr f8977 (by decide) fr_rf))))))), ⟨o9135, o9136, o9137, o9138, trivial⟩⟩ (Nat.le_of_ble_eq_true rfl) (Nat.le_of_ble_eq_true rfl)
set_option maxRecDepth 10000 in
theorem q9175 {l : Launch} {E : EE} (hl : l.stackTraces = false) {h : HP} (o9153 : ob h 252 = some (.inr (10, [.ref 253, .ref 254, .ref 255, .ref 272, .ref 273]))) (o9154 : ob h 272 = some (.inl (0, 16, .inl (fun _ => 0)))) (o9155 : ob h 255 = some (.inl (5, 16, .inr (.inr (.inr (.inr (fun i => if i < 16 then some (255 + 1 + i) else none))))))) (o9156 : ob h 269 = some (.inl (0, 280, .inl (fun _ => 0)))) (o9162 : ob h 273 = some (.inl (0, 16, .inl (fun _ => 0)))) : en_C l E M_X7_multiply 2 0 0 [.ref 252, .int (Int32.ofInt 13), .int (Int32.ofInt 6), .int (Int32.ofInt 6)] h (pF none [272, 273] h (fun h' => ob h' 272 = some (.inl (0, 16, .inl (fun _ => 0))) ∧ ob h' 273 = some (.inl (0, 16, .inl (fun _ => 0))) ∧ True)) := by
  refine en_mk m_X7_multiply rfl hl (Nat.le_of_ble_eq_true rfl) ?_
  refine x_aload_n (M := M_X7_multiply) dX7_multiply_0 rfl ?_
  refine x_getf (M := M_X7_multiply) (ci := 10) (C := RX7) (T := TX7) (N := 5) (ty := tyX7) cl10 dX7_multiply_1 o9153 3 (by decide) t_550 (v := .ref 272) rfl ?_
  refine x_iload_n (M := M_X7_multiply) dX7_multiply_4 rfl ?_
  refine x_iald (M := M_X7_multiply) dX7_multiply_5 o9154 (vp_inD (by decide +kernel)) ?_
  refine x_top (M := M_X7_multiply) (y := (Int32.ofInt 0)) (by decide +kernel) ?_
  refine x_aload_n (M := M_X7_multiply) dX7_multiply_6 rfl ?_
  refine x_getf (M := M_X7_multiply) (ci := 10) (C := RX7) (T := TX7) (N := 5) (ty := tyX7) cl10 dX7_multiply_7 o9153 3 (by decide) t_550 (v := .ref 272) rfl ?_
  refine x_iload_n (M := M_X7_multiply) dX7_multiply_10 rfl ?_
  refine x_iald (M := M_X7_multiply) dX7_multiply_11 o9154 (vp_inD (by decide +kernel)) ?_
  refine x_top (M := M_X7_multiply) (y := (Int32.ofInt 0)) (by decide +kernel) ?_
  refine x_iadd (M := M_X7_multiply) dX7_multiply_12 ?_
  refine x_sipush (M := M_X7_multiply) dX7_multiply_13 ?_
  refine x_mmin (M := M_X7_multiply) dX7_multiply_16 t_2351 t_626 t_20 t_627 (Nat.le_of_ble_eq_true rfl) (Nat.le_of_ble_eq_true rfl) (Nat.le_of_ble_eq_true rfl) (Nat.le_of_ble_eq_true rfl) ?_
  refine x_top (M := M_X7_multiply) (y := (Int32.ofInt 0)) (by decide +kernel) ?_
  refine x_istore (M := M_X7_multiply) dX7_multiply_19 (Nat.le_of_ble_eq_true rfl) rfl ?_
  refine x_aload_n (M := M_X7_multiply) dX7_multiply_21 rfl ?_
  refine x_getf (M := M_X7_multiply) (ci := 10) (C := RX7) (T := TX7) (N := 5) (ty := tyX7) cl10 dX7_multiply_22 o9153 2 (by decide) t_549 (v := .ref 255) rfl ?_
  refine x_iload_n (M := M_X7_multiply) dX7_multiply_25 rfl ?_
  refine x_gald (M := M_X7_multiply) (b := 269) dX7_multiply_26 o9155 (vp_inD (by decide +kernel)) (by decide +kernel) ?_
  refine x_iconst (M := M_X7_multiply) dX7_multiply_27 ?_
  refine x_iload (M := M_X7_multiply) dX7_multiply_28 rfl ?_
  refine x_iconst (M := M_X7_multiply) dX7_multiply_30 ?_
  refine x_callSR (M := M_X7_multiply) (M' := M_J7_fill_fda19) rfl rfl dX7_multiply_31 m_J7_fill_fda19 t_2337 t_1522 (q8599 hl o9156) rfl rfl (Nat.le_of_ble_eq_true rfl) (Nat.le_of_ble_eq_true rfl) (Nat.le_of_ble_eq_true rfl) (Nat.le_of_ble_eq_true rfl) ?_
  refine x_iconst (M := M_X7_multiply) dX7_multiply_34 ?_
  refine x_istore (M := M_X7_multiply) dX7_multiply_35 (Nat.le_of_ble_eq_true rfl) rfl ?_
  refine x_iload (M := M_X7_multiply) dX7_multiply_37 rfl ?_
  refine x_aload_n (M := M_X7_multiply) dX7_multiply_39 rfl ?_
  refine x_getf (M := M_X7_multiply) (ci := 10) (C := RX7) (T := TX7) (N := 5) (ty := tyX7) cl10 dX7_multiply_40 o9153 3 (by decide) t_550 (v := .ref 272) rfl ?_
  refine x_iload_n (M := M_X7_multiply) dX7_multiply_43 rfl ?_
  refine x_iald (M := M_X7_multiply) dX7_multiply_44 o9154 (vp_inD (by decide +kernel)) ?_
  refine x_top (M := M_X7_multiply) (y := (Int32.ofInt 0)) (by decide +kernel) ?_
  refine x_icmp_ge (M := M_X7_multiply) (tgt := 161) dX7_multiply_45 (by decide) (fun _ => ?_) (fun q => absurd q (by decide +kernel))
  refine x_aload_n (M := M_X7_multiply) dX7_multiply_161 rfl ?_
  refine x_getf (M := M_X7_multiply) (ci := 10) (C := RX7) (T := TX7) (N := 5) (ty := tyX7) cl10 dX7_multiply_162 o9153 3 (by decide) t_550 (v := .ref 272) rfl ?_
  refine x_iload_n (M := M_X7_multiply) dX7_multiply_165 rfl ?_
  refine x_iload (M := M_X7_multiply) dX7_multiply_166 rfl ?_
  refine y_iast (M := M_X7_multiply) (k := 13) dX7_multiply_168 o9154 (vp_inD (by decide +kernel)) (by decide +kernel) (fun h9157 w9158 f9159 => ?_)
  have w9160 : ob h9157 272 = some (.inl (0, 16, .inl (fun _ => 0))) := by rw [w9158, up_z (k := 13)]
  refine x_aload_n (M := M_X7_multiply) dX7_multiply_169 rfl ?_
  have o9161 := (f9159 252 _ (by decide) o9153)
  refine x_getf (M := M_X7_multiply) (ci := 10) (C := RX7) (T := TX7) (N := 5) (ty := tyX7) cl10 dX7_multiply_170 o9161 4 (by decide) t_551 (v := .ref 273) rfl ?_
  refine x_iload_n (M := M_X7_multiply) dX7_multiply_173 rfl ?_
  refine x_aload_n (M := M_X7_multiply) dX7_multiply_174 rfl ?_
  refine x_getf (M := M_X7_multiply) (ci := 10) (C := RX7) (T := TX7) (N := 5) (ty := tyX7) cl10 dX7_multiply_175 o9161 4 (by decide) t_551 (v := .ref 273) rfl ?_
  refine x_iload_n (M := M_X7_multiply) dX7_multiply_178 rfl ?_
  have o9163 := (f9159 273 _ (by decide) o9162)
  refine x_iald (M := M_X7_multiply) dX7_multiply_179 o9163 (vp_inD (by decide +kernel)) ?_
  refine x_top (M := M_X7_multiply) (y := (Int32.ofInt 0)) (by decide +kernel) ?_
  refine x_aload_n (M := M_X7_multiply) dX7_multiply_180 rfl ?_
  refine x_getf (M := M_X7_multiply) (ci := 10) (C := RX7) (T := TX7) (N := 5) (ty := tyX7) cl10 dX7_multiply_181 o9161 4 (by decide) t_551 (v := .ref 273) rfl ?_
  refine x_iload_n (M := M_X7_multiply) dX7_multiply_184 rfl ?_
  refine x_iald (M := M_X7_multiply) dX7_multiply_185 o9163 (vp_inD (by decide +kernel)) ?_
  refine x_top (M := M_X7_multiply) (y := (Int32.ofInt 0)) (by decide +kernel) ?_
  refine x_imul (M := M_X7_multiply) dX7_multiply_186 ?_
  refine x_norm (M := M_X7_multiply) (st' := [.int (Int32.ofInt 0), .int (Int32.ofInt 13), .ref 273]) rfl (vi_cons (by decide +kernel : ((Int32.ofInt 0) * (Int32.ofInt 0)) = (Int32.ofInt 0)) rfl) rfl rfl rfl ?_
  refine y_iast (M := M_X7_multiply) (k := 13) dX7_multiply_187 o9163 (vp_inD (by decide +kernel)) (by decide +kernel) (fun h9164 w9165 f9166 => ?_)
  have w9167 : ob h9164 273 = some (.inl (0, 16, .inl (fun _ => 0))) := by rw [w9165, up_z (k := 13)]
  refine x_aload_n (M := M_X7_multiply) dX7_multiply_188 rfl ?_
  refine x_iload_n (M := M_X7_multiply) dX7_multiply_189 rfl ?_
  have o9168 := (f9166 252 _ (by decide) o9161)
  have o9169 := (f9166 272 _ (by decide) w9160)
  refine y_callVR (M := M_X7_multiply) (M' := M_X7_trim) rfl rfl dX7_multiply_190 m_X7_trim t_2339 t_2341 s_150 (q8619 hl o9168 o9169 w9167) rfl rfl o9168 rfl (Nat.le_of_ble_eq_true rfl) (Nat.le_of_ble_eq_true rfl) (Nat.le_of_ble_eq_true rfl) (Nat.le_of_ble_eq_true rfl) (fun h9170 f9171 w9172 => ?_)
  obtain ⟨o9173, -⟩ := w9172
  have o9174 := (f9171 272 _ (by decide) o9169)
  exact x_vret (M := M_X7_multiply) dX7_multiply_193 rfl ⟨rfl, (fr_tr f9171 (by decide) (fr_tr f9166 (by decide) (fr_tr f9159 (by decide) fr_rf))), ⟨o9174, o9173, trivial⟩⟩ (Nat.le_of_ble_eq_true rfl) (Nat.le_of_ble_eq_true rfl)
set_option maxRecDepth 10000 in
theorem q9208 {l : Launch} {E : EE} (hl : l.stackTraces = false) {h : HP} (o9186 : ob h 252 = some (.inr (10, [.ref 253, .ref 254, .ref 255, .ref 272, .ref 273]))) (o9187 : ob h 272 = some (.inl (0, 16, .inl (fun _ => 0)))) (o9188 : ob h 255 = some (.inl (5, 16, .inr (.inr (.inr (.inr (fun i => if i < 16 then some (255 + 1 + i) else none))))))) (o9189 : ob h 270 = some (.inl (0, 280, .inl (fun _ => 0)))) (o9195 : ob h 273 = some (.inl (0, 16, .inl (fun _ => 0)))) : en_C l E M_X7_multiply 2 0 0 [.ref 252, .int (Int32.ofInt 14), .int (Int32.ofInt 7), .int (Int32.ofInt 7)] h (pF none [272, 273] h (fun h' => ob h' 272 = some (.inl (0, 16, .inl (fun _ => 0))) ∧ ob h' 273 = some (.inl (0, 16, .inl (fun _ => 0))) ∧ True)) := by
  refine en_mk m_X7_multiply rfl hl (Nat.le_of_ble_eq_true rfl) ?_
  refine x_aload_n (M := M_X7_multiply) dX7_multiply_0 rfl ?_
  refine x_getf (M := M_X7_multiply) (ci := 10) (C := RX7) (T := TX7) (N := 5) (ty := tyX7) cl10 dX7_multiply_1 o9186 3 (by decide) t_550 (v := .ref 272) rfl ?_
  refine x_iload_n (M := M_X7_multiply) dX7_multiply_4 rfl ?_
  refine x_iald (M := M_X7_multiply) dX7_multiply_5 o9187 (vp_inD (by decide +kernel)) ?_
  refine x_top (M := M_X7_multiply) (y := (Int32.ofInt 0)) (by decide +kernel) ?_
  refine x_aload_n (M := M_X7_multiply) dX7_multiply_6 rfl ?_
  refine x_getf (M := M_X7_multiply) (ci := 10) (C := RX7) (T := TX7) (N := 5) (ty := tyX7) cl10 dX7_multiply_7 o9186 3 (by decide) t_550 (v := .ref 272) rfl ?_
  refine x_iload_n (M := M_X7_multiply) dX7_multiply_10 rfl ?_
  refine x_iald (M := M_X7_multiply) dX7_multiply_11 o9187 (vp_inD (by decide +kernel)) ?_
  refine x_top (M := M_X7_multiply) (y := (Int32.ofInt 0)) (by decide +kernel) ?_
  refine x_iadd (M := M_X7_multiply) dX7_multiply_12 ?_
  refine x_sipush (M := M_X7_multiply) dX7_multiply_13 ?_
  refine x_mmin (M := M_X7_multiply) dX7_multiply_16 t_2351 t_626 t_20 t_627 (Nat.le_of_ble_eq_true rfl) (Nat.le_of_ble_eq_true rfl) (Nat.le_of_ble_eq_true rfl) (Nat.le_of_ble_eq_true rfl) ?_
  refine x_top (M := M_X7_multiply) (y := (Int32.ofInt 0)) (by decide +kernel) ?_
  refine x_istore (M := M_X7_multiply) dX7_multiply_19 (Nat.le_of_ble_eq_true rfl) rfl ?_
  refine x_aload_n (M := M_X7_multiply) dX7_multiply_21 rfl ?_
  refine x_getf (M := M_X7_multiply) (ci := 10) (C := RX7) (T := TX7) (N := 5) (ty := tyX7) cl10 dX7_multiply_22 o9186 2 (by decide) t_549 (v := .ref 255) rfl ?_
  refine x_iload_n (M := M_X7_multiply) dX7_multiply_25 rfl ?_
  refine x_gald (M := M_X7_multiply) (b := 270) dX7_multiply_26 o9188 (vp_inD (by decide +kernel)) (by decide +kernel) ?_
  refine x_iconst (M := M_X7_multiply) dX7_multiply_27 ?_
  refine x_iload (M := M_X7_multiply) dX7_multiply_28 rfl ?_
  refine x_iconst (M := M_X7_multiply) dX7_multiply_30 ?_
  refine x_callSR (M := M_X7_multiply) (M' := M_J7_fill_fda19) rfl rfl dX7_multiply_31 m_J7_fill_fda19 t_2337 t_1522 (q8642 hl o9189) rfl rfl (Nat.le_of_ble_eq_true rfl) (Nat.le_of_ble_eq_true rfl) (Nat.le_of_ble_eq_true rfl) (Nat.le_of_ble_eq_true rfl) ?_
  refine x_iconst (M := M_X7_multiply) dX7_multiply_34 ?_
  refine x_istore (M := M_X7_multiply) dX7_multiply_35 (Nat.le_of_ble_eq_true rfl) rfl ?_
  refine x_iload (M := M_X7_multiply) dX7_multiply_37 rfl ?_
  refine x_aload_n (M := M_X7_multiply) dX7_multiply_39 rfl ?_
  refine x_getf (M := M_X7_multiply) (ci := 10) (C := RX7) (T := TX7) (N := 5) (ty := tyX7) cl10 dX7_multiply_40 o9186 3 (by decide) t_550 (v := .ref 272) rfl ?_
  refine x_iload_n (M := M_X7_multiply) dX7_multiply_43 rfl ?_
  refine x_iald (M := M_X7_multiply) dX7_multiply_44 o9187 (vp_inD (by decide +kernel)) ?_
  refine x_top (M := M_X7_multiply) (y := (Int32.ofInt 0)) (by decide +kernel) ?_
  refine x_icmp_ge (M := M_X7_multiply) (tgt := 161) dX7_multiply_45 (by decide) (fun _ => ?_) (fun q => absurd q (by decide +kernel))
  refine x_aload_n (M := M_X7_multiply) dX7_multiply_161 rfl ?_
  refine x_getf (M := M_X7_multiply) (ci := 10) (C := RX7) (T := TX7) (N := 5) (ty := tyX7) cl10 dX7_multiply_162 o9186 3 (by decide) t_550 (v := .ref 272) rfl ?_
  refine x_iload_n (M := M_X7_multiply) dX7_multiply_165 rfl ?_
  refine x_iload (M := M_X7_multiply) dX7_multiply_166 rfl ?_
  refine y_iast (M := M_X7_multiply) (k := 14) dX7_multiply_168 o9187 (vp_inD (by decide +kernel)) (by decide +kernel) (fun h9190 w9191 f9192 => ?_)
  have w9193 : ob h9190 272 = some (.inl (0, 16, .inl (fun _ => 0))) := by rw [w9191, up_z (k := 14)]
  refine x_aload_n (M := M_X7_multiply) dX7_multiply_169 rfl ?_
  have o9194 := (f9192 252 _ (by decide) o9186)
  refine x_getf (M := M_X7_multiply) (ci := 10) (C := RX7) (T := TX7) (N := 5) (ty := tyX7) cl10 dX7_multiply_170 o9194 4 (by decide) t_551 (v := .ref 273) rfl ?_
  refine x_iload_n (M := M_X7_multiply) dX7_multiply_173 rfl ?_
  refine x_aload_n (M := M_X7_multiply) dX7_multiply_174 rfl ?_
  refine x_getf (M := M_X7_multiply) (ci := 10) (C := RX7) (T := TX7) (N := 5) (ty := tyX7) cl10 dX7_multiply_175 o9194 4 (by decide) t_551 (v := .ref 273) rfl ?_
  refine x_iload_n (M := M_X7_multiply) dX7_multiply_178 rfl ?_
  have o9196 := (f9192 273 _ (by decide) o9195)
  refine x_iald (M := M_X7_multiply) dX7_multiply_179 o9196 (vp_inD (by decide +kernel)) ?_
  refine x_top (M := M_X7_multiply) (y := (Int32.ofInt 0)) (by decide +kernel) ?_
  refine x_aload_n (M := M_X7_multiply) dX7_multiply_180 rfl ?_
  refine x_getf (M := M_X7_multiply) (ci := 10) (C := RX7) (T := TX7) (N := 5) (ty := tyX7) cl10 dX7_multiply_181 o9194 4 (by decide) t_551 (v := .ref 273) rfl ?_
  refine x_iload_n (M := M_X7_multiply) dX7_multiply_184 rfl ?_
  refine x_iald (M := M_X7_multiply) dX7_multiply_185 o9196 (vp_inD (by decide +kernel)) ?_
  refine x_top (M := M_X7_multiply) (y := (Int32.ofInt 0)) (by decide +kernel) ?_
  refine x_imul (M := M_X7_multiply) dX7_multiply_186 ?_
  refine x_norm (M := M_X7_multiply) (st' := [.int (Int32.ofInt 0), .int (Int32.ofInt 14), .ref 273]) rfl (vi_cons (by decide +kernel : ((Int32.ofInt 0) * (Int32.ofInt 0)) = (Int32.ofInt 0)) rfl) rfl rfl rfl ?_
  refine y_iast (M := M_X7_multiply) (k := 14) dX7_multiply_187 o9196 (vp_inD (by decide +kernel)) (by decide +kernel) (fun h9197 w9198 f9199 => ?_)
  have w9200 : ob h9197 273 = some (.inl (0, 16, .inl (fun _ => 0))) := by rw [w9198, up_z (k := 14)]
  refine x_aload_n (M := M_X7_multiply) dX7_multiply_188 rfl ?_
  refine x_iload_n (M := M_X7_multiply) dX7_multiply_189 rfl ?_
  have o9201 := (f9199 252 _ (by decide) o9194)
  have o9202 := (f9199 272 _ (by decide) w9193)
  refine y_callVR (M := M_X7_multiply) (M' := M_X7_trim) rfl rfl dX7_multiply_190 m_X7_trim t_2339 t_2341 s_150 (q8662 hl o9201 o9202 w9200) rfl rfl o9201 rfl (Nat.le_of_ble_eq_true rfl) (Nat.le_of_ble_eq_true rfl) (Nat.le_of_ble_eq_true rfl) (Nat.le_of_ble_eq_true rfl) (fun h9203 f9204 w9205 => ?_)
  obtain ⟨o9206, -⟩ := w9205
  have o9207 := (f9204 272 _ (by decide) o9202)
  exact x_vret (M := M_X7_multiply) dX7_multiply_193 rfl ⟨rfl, (fr_tr f9204 (by decide) (fr_tr f9199 (by decide) (fr_tr f9192 (by decide) fr_rf))), ⟨o9207, o9206, trivial⟩⟩ (Nat.le_of_ble_eq_true rfl) (Nat.le_of_ble_eq_true rfl)
set_option maxRecDepth 10000 in
theorem q9250 {l : Launch} {E : EE} (hl : l.stackTraces = false) {h : HP} (o9228 : ob h 252 = some (.inr (10, [.ref 253, .ref 254, .ref 255, .ref 272, .ref 273]))) (o9229 : ob h 272 = some (.inl (0, 16, .inl (fun _ => 0)))) (o9230 : ob h 255 = some (.inl (5, 16, .inr (.inr (.inr (.inr (fun i => if i < 16 then some (255 + 1 + i) else none))))))) (o9231 : ob h 269 = some (.inl (0, 280, .inl (fun _ => 0)))) (o9237 : ob h 273 = some (.inl (0, 16, .inl (fun _ => 0)))) : en_C l E M_X7_multiply 2 0 0 [.ref 252, .int (Int32.ofInt 13), .int (Int32.ofInt 2), .int (Int32.ofInt 5)] h (pF none [272, 273] h (fun h' => ob h' 272 = some (.inl (0, 16, .inl (fun _ => 0))) ∧ ob h' 273 = some (.inl (0, 16, .inl (fun _ => 0))) ∧ True)) := by
  refine en_mk m_X7_multiply rfl hl (Nat.le_of_ble_eq_true rfl) ?_
  refine x_aload_n (M := M_X7_multiply) dX7_multiply_0 rfl ?_
  refine x_getf (M := M_X7_multiply) (ci := 10) (C := RX7) (T := TX7) (N := 5) (ty := tyX7) cl10 dX7_multiply_1 o9228 3 (by decide) t_550 (v := .ref 272) rfl ?_
  refine x_iload_n (M := M_X7_multiply) dX7_multiply_4 rfl ?_
  refine x_iald (M := M_X7_multiply) dX7_multiply_5 o9229 (vp_inD (by decide +kernel)) ?_
  refine x_top (M := M_X7_multiply) (y := (Int32.ofInt 0)) (by decide +kernel) ?_
  refine x_aload_n (M := M_X7_multiply) dX7_multiply_6 rfl ?_
  refine x_getf (M := M_X7_multiply) (ci := 10) (C := RX7) (T := TX7) (N := 5) (ty := tyX7) cl10 dX7_multiply_7 o9228 3 (by decide) t_550 (v := .ref 272) rfl ?_
  refine x_iload_n (M := M_X7_multiply) dX7_multiply_10 rfl ?_
  refine x_iald (M := M_X7_multiply) dX7_multiply_11 o9229 (vp_inD (by decide +kernel)) ?_
  refine x_top (M := M_X7_multiply) (y := (Int32.ofInt 0)) (by decide +kernel) ?_
  refine x_iadd (M := M_X7_multiply) dX7_multiply_12 ?_
  refine x_sipush (M := M_X7_multiply) dX7_multiply_13 ?_
  refine x_mmin (M := M_X7_multiply) dX7_multiply_16 t_2351 t_626 t_20 t_627 (Nat.le_of_ble_eq_true rfl) (Nat.le_of_ble_eq_true rfl) (Nat.le_of_ble_eq_true rfl) (Nat.le_of_ble_eq_true rfl) ?_
  refine x_top (M := M_X7_multiply) (y := (Int32.ofInt 0)) (by decide +kernel) ?_
  refine x_istore (M := M_X7_multiply) dX7_multiply_19 (Nat.le_of_ble_eq_true rfl) rfl ?_
  refine x_aload_n (M := M_X7_multiply) dX7_multiply_21 rfl ?_
  refine x_getf (M := M_X7_multiply) (ci := 10) (C := RX7) (T := TX7) (N := 5) (ty := tyX7) cl10 dX7_multiply_22 o9228 2 (by decide) t_549 (v := .ref 255) rfl ?_
  refine x_iload_n (M := M_X7_multiply) dX7_multiply_25 rfl ?_
  refine x_gald (M := M_X7_multiply) (b := 269) dX7_multiply_26 o9230 (vp_inD (by decide +kernel)) (by decide +kernel) ?_
  refine x_iconst (M := M_X7_multiply) dX7_multiply_27 ?_
  refine x_iload (M := M_X7_multiply) dX7_multiply_28 rfl ?_
  refine x_iconst (M := M_X7_multiply) dX7_multiply_30 ?_
  refine x_callSR (M := M_X7_multiply) (M' := M_J7_fill_fda19) rfl rfl dX7_multiply_31 m_J7_fill_fda19 t_2337 t_1522 (q8599 hl o9231) rfl rfl (Nat.le_of_ble_eq_true rfl) (Nat.le_of_ble_eq_true rfl) (Nat.le_of_ble_eq_true rfl) (Nat.le_of_ble_eq_true rfl) ?_
  refine x_iconst (M := M_X7_multiply) dX7_multiply_34 ?_
  refine x_istore (M := M_X7_multiply) dX7_multiply_35 (Nat.le_of_ble_eq_true rfl) rfl ?_
  refine x_iload (M := M_X7_multiply) dX7_multiply_37 rfl ?_
  refine x_aload_n (M := M_X7_multiply) dX7_multiply_39 rfl ?_
  refine x_getf (M := M_X7_multiply) (ci := 10) (C := RX7) (T := TX7) (N := 5) (ty := tyX7) cl10 dX7_multiply_40 o9228 3 (by decide) t_550 (v := .ref 272) rfl ?_
  refine x_iload_n (M := M_X7_multiply) dX7_multiply_43 rfl ?_
  refine x_iald (M := M_X7_multiply) dX7_multiply_44 o9229 (vp_inD (by decide +kernel)) ?_
  refine x_top (M := M_X7_multiply) (y := (Int32.ofInt 0)) (by decide +kernel) ?_
  refine x_icmp_ge (M := M_X7_multiply) (tgt := 161) dX7_multiply_45 (by decide) (fun _ => ?_) (fun q => absurd q (by decide +kernel))
  refine x_aload_n (M := M_X7_multiply) dX7_multiply_161 rfl ?_
  refine x_getf (M := M_X7_multiply) (ci := 10) (C := RX7) (T := TX7) (N := 5) (ty := tyX7) cl10 dX7_multiply_162 o9228 3 (by decide) t_550 (v := .ref 272) rfl ?_
  refine x_iload_n (M := M_X7_multiply) dX7_multiply_165 rfl ?_
  refine x_iload (M := M_X7_multiply) dX7_multiply_166 rfl ?_
  refine y_iast (M := M_X7_multiply) (k := 13) dX7_multiply_168 o9229 (vp_inD (by decide +kernel)) (by decide +kernel) (fun h9232 w9233 f9234 => ?_)
  have w9235 : ob h9232 272 = some (.inl (0, 16, .inl (fun _ => 0))) := by rw [w9233, up_z (k := 13)]
  refine x_aload_n (M := M_X7_multiply) dX7_multiply_169 rfl ?_
  have o9236 := (f9234 252 _ (by decide) o9228)
  refine x_getf (M := M_X7_multiply) (ci := 10) (C := RX7) (T := TX7) (N := 5) (ty := tyX7) cl10 dX7_multiply_170 o9236 4 (by decide) t_551 (v := .ref 273) rfl ?_
  refine x_iload_n (M := M_X7_multiply) dX7_multiply_173 rfl ?_
  refine x_aload_n (M := M_X7_multiply) dX7_multiply_174 rfl ?_
  refine x_getf (M := M_X7_multiply) (ci := 10) (C := RX7) (T := TX7) (N := 5) (ty := tyX7) cl10 dX7_multiply_175 o9236 4 (by decide) t_551 (v := .ref 273) rfl ?_
  refine x_iload_n (M := M_X7_multiply) dX7_multiply_178 rfl ?_
  have o9238 := (f9234 273 _ (by decide) o9237)
  refine x_iald (M := M_X7_multiply) dX7_multiply_179 o9238 (vp_inD (by decide +kernel)) ?_
  refine x_top (M := M_X7_multiply) (y := (Int32.ofInt 0)) (by decide +kernel) ?_
  refine x_aload_n (M := M_X7_multiply) dX7_multiply_180 rfl ?_
  refine x_getf (M := M_X7_multiply) (ci := 10) (C := RX7) (T := TX7) (N := 5) (ty := tyX7) cl10 dX7_multiply_181 o9236 4 (by decide) t_551 (v := .ref 273) rfl ?_
  refine x_iload_n (M := M_X7_multiply) dX7_multiply_184 rfl ?_
  refine x_iald (M := M_X7_multiply) dX7_multiply_185 o9238 (vp_inD (by decide +kernel)) ?_
  refine x_top (M := M_X7_multiply) (y := (Int32.ofInt 0)) (by decide +kernel) ?_
  refine x_imul (M := M_X7_multiply) dX7_multiply_186 ?_
  refine x_norm (M := M_X7_multiply) (st' := [.int (Int32.ofInt 0), .int (Int32.ofInt 13), .ref 273]) rfl (vi_cons (by decide +kernel : ((Int32.ofInt 0) * (Int32.ofInt 0)) = (Int32.ofInt 0)) rfl) rfl rfl rfl ?_
  refine y_iast (M := M_X7_multiply) (k := 13) dX7_multiply_187 o9238 (vp_inD (by decide +kernel)) (by decide +kernel) (fun h9239 w9240 f9241 => ?_)
  have w9242 : ob h9239 273 = some (.inl (0, 16, .inl (fun _ => 0))) := by rw [w9240, up_z (k := 13)]
  refine x_aload_n (M := M_X7_multiply) dX7_multiply_188 rfl ?_
  refine x_iload_n (M := M_X7_multiply) dX7_multiply_189 rfl ?_
  have o9243 := (f9241 252 _ (by decide) o9236)
  have o9244 := (f9241 272 _ (by decide) w9235)
  refine y_callVR (M := M_X7_multiply) (M' := M_X7_trim) rfl rfl dX7_multiply_190 m_X7_trim t_2339 t_2341 s_150 (q8619 hl o9243 o9244 w9242) rfl rfl o9243 rfl (Nat.le_of_ble_eq_true rfl) (Nat.le_of_ble_eq_true rfl) (Nat.le_of_ble_eq_true rfl) (Nat.le_of_ble_eq_true rfl) (fun h9245 f9246 w9247 => ?_)
  obtain ⟨o9248, -⟩ := w9247
  have o9249 := (f9246 272 _ (by decide) o9244)
  exact x_vret (M := M_X7_multiply) dX7_multiply_193 rfl ⟨rfl, (fr_tr f9246 (by decide) (fr_tr f9241 (by decide) (fr_tr f9234 (by decide) fr_rf))), ⟨o9249, o9248, trivial⟩⟩ (Nat.le_of_ble_eq_true rfl) (Nat.le_of_ble_eq_true rfl)
set_option maxRecDepth 10000 in
theorem q9281 {l : Launch} {E : EE} (hl : l.stackTraces = false) {h : HP} (o9259 : ob h 252 = some (.inr (10, [.ref 253, .ref 254, .ref 255, .ref 272, .ref 273]))) (o9260 : ob h 272 = some (.inl (0, 16, .inl (fun _ => 0)))) (o9261 : ob h 255 = some (.inl (5, 16, .inr (.inr (.inr (.inr (fun i => if i < 16 then some (255 + 1 + i) else none))))))) (o9262 : ob h 270 = some (.inl (0, 280, .inl (fun _ => 0)))) (o9268 : ob h 273 = some (.inl (0, 16, .inl (fun _ => 0)))) : en_C l E M_X7_multiply 2 0 0 [.ref 252, .int (Int32.ofInt 14), .int (Int32.ofInt 3), .int (Int32.ofInt 4)] h (pF none [272, 273] h (fun h' => ob h' 272 = some (.inl (0, 16, .inl (fun _ => 0))) ∧ ob h' 273 = some (.inl (0, 16, .inl (fun _ => 0))) ∧ True)) := by
  refine en_mk m_X7_multiply rfl hl (Nat.le_of_ble_eq_true rfl) ?_
  refine x_aload_n (M := M_X7_multiply) dX7_multiply_0 rfl ?_
  refine x_getf (M := M_X7_multiply) (ci := 10) (C := RX7) (T := TX7) (N := 5) (ty := tyX7) cl10 dX7_multiply_1 o9259 3 (by decide) t_550 (v := .ref 272) rfl ?_
  refine x_iload_n (M := M_X7_multiply) dX7_multiply_4 rfl ?_
  refine x_iald (M := M_X7_multiply) dX7_multiply_5 o9260 (vp_inD (by decide +kernel)) ?_
  refine x_top (M := M_X7_multiply) (y := (Int32.ofInt 0)) (by decide +kernel) ?_
  refine x_aload_n (M := M_X7_multiply) dX7_multiply_6 rfl ?_
  refine x_getf (M := M_X7_multiply) (ci := 10) (C := RX7) (T := TX7) (N := 5) (ty := tyX7) cl10 dX7_multiply_7 o9259 3 (by decide) t_550 (v := .ref 272) rfl ?_
  refine x_iload_n (M := M_X7_multiply) dX7_multiply_10 rfl ?_
  refine x_iald (M := M_X7_multiply) dX7_multiply_11 o9260 (vp_inD (by decide +kernel)) ?_
  refine x_top (M := M_X7_multiply) (y := (Int32.ofInt 0)) (by decide +kernel) ?_
  refine x_iadd (M := M_X7_multiply) dX7_multiply_12 ?_
  refine x_sipush (M := M_X7_multiply) dX7_multiply_13 ?_
  refine x_mmin (M := M_X7_multiply) dX7_multiply_16 t_2351 t_626 t_20 t_627 (Nat.le_of_ble_eq_true rfl) (Nat.le_of_ble_eq_true rfl) (Nat.le_of_ble_eq_true rfl) (Nat.le_of_ble_eq_true rfl) ?_
  refine x_top (M := M_X7_multiply) (y := (Int32.ofInt 0)) (by decide +kernel) ?_
  refine x_istore (M := M_X7_multiply) dX7_multiply_19 (Nat.le_of_ble_eq_true rfl) rfl ?_
  refine x_aload_n (M := M_X7_multiply) dX7_multiply_21 rfl ?_
  refine x_getf (M := M_X7_multiply) (ci := 10) (C := RX7) (T := TX7) (N := 5) (ty := tyX7) cl10 dX7_multiply_22 o9259 2 (by decide) t_549 (v := .ref 255) rfl ?_
  refine x_iload_n (M := M_X7_multiply) dX7_multiply_25 rfl ?_
  refine x_gald (M := M_X7_multiply) (b := 270) dX7_multiply_26 o9261 (vp_inD (by decide +kernel)) (by decide +kernel) ?_
  refine x_iconst (M := M_X7_multiply) dX7_multiply_27 ?_
  refine x_iload (M := M_X7_multiply) dX7_multiply_28 rfl ?_
  refine x_iconst (M := M_X7_multiply) dX7_multiply_30 ?_
  refine x_callSR (M := M_X7_multiply) (M' := M_J7_fill_fda19) rfl rfl dX7_multiply_31 m_J7_fill_fda19 t_2337 t_1522 (q8642 hl o9262) rfl rfl (Nat.le_of_ble_eq_true rfl) (Nat.le_of_ble_eq_true rfl) (Nat.le_of_ble_eq_true rfl) (Nat.le_of_ble_eq_true rfl) ?_
  refine x_iconst (M := M_X7_multiply) dX7_multiply_34 ?_
  refine x_istore (M := M_X7_multiply) dX7_multiply_35 (Nat.le_of_ble_eq_true rfl) rfl ?_
  refine x_iload (M := M_X7_multiply) dX7_multiply_37 rfl ?_
  refine x_aload_n (M := M_X7_multiply) dX7_multiply_39 rfl ?_
  refine x_getf (M := M_X7_multiply) (ci := 10) (C := RX7) (T := TX7) (N := 5) (ty := tyX7) cl10 dX7_multiply_40 o9259 3 (by decide) t_550 (v := .ref 272) rfl ?_
  refine x_iload_n (M := M_X7_multiply) dX7_multiply_43 rfl ?_
  refine x_iald (M := M_X7_multiply) dX7_multiply_44 o9260 (vp_inD (by decide +kernel)) ?_
  refine x_top (M := M_X7_multiply) (y := (Int32.ofInt 0)) (by decide +kernel) ?_
  refine x_icmp_ge (M := M_X7_multiply) (tgt := 161) dX7_multiply_45 (by decide) (fun _ => ?_) (fun q => absurd q (by decide +kernel))
  refine x_aload_n (M := M_X7_multiply) dX7_multiply_161 rfl ?_
  refine x_getf (M := M_X7_multiply) (ci := 10) (C := RX7) (T := TX7) (N := 5) (ty := tyX7) cl10 dX7_multiply_162 o9259 3 (by decide) t_550 (v := .ref 272) rfl ?_
  refine x_iload_n (M := M_X7_multiply) dX7_multiply_165 rfl ?_
  refine x_iload (M := M_X7_multiply) dX7_multiply_166 rfl ?_
  refine y_iast (M := M_X7_multiply) (k := 14) dX7_multiply_168 o9260 (vp_inD (by decide +kernel)) (by decide +kernel) (fun h9263 w9264 f9265 => ?_)
  have w9266 : ob h9263 272 = some (.inl (0, 16, .inl (fun _ => 0))) := by rw [w9264, up_z (k := 14)]
  refine x_aload_n (M := M_X7_multiply) dX7_multiply_169 rfl ?_
  have o9267 := (f9265 252 _ (by decide) o9259)
  refine x_getf (M := M_X7_multiply) (ci := 10) (C := RX7) (T := TX7) (N := 5) (ty := tyX7) cl10 dX7_multiply_170 o9267 4 (by decide) t_551 (v := .ref 273) rfl ?_
  refine x_iload_n (M := M_X7_multiply) dX7_multiply_173 rfl ?_
  refine x_aload_n (M := M_X7_multiply) dX7_multiply_174 rfl ?_
  refine x_getf (M := M_X7_multiply) (ci := 10) (C := RX7) (T := TX7) (N := 5) (ty := tyX7) cl10 dX7_multiply_175 o9267 4 (by decide) t_551 (v := .ref 273) rfl ?_
  refine x_iload_n (M := M_X7_multiply) dX7_multiply_178 rfl ?_
  have o9269 := (f9265 273 _ (by decide) o9268)
  refine x_iald (M := M_X7_multiply) dX7_multiply_179 o9269 (vp_inD (by decide +kernel)) ?_
  refine x_top (M := M_X7_multiply) (y := (Int32.ofInt 0)) (by decide +kernel) ?_
  refine x_aload_n (M := M_X7_multiply) dX7_multiply_180 rfl ?_
  refine x_getf (M := M_X7_multiply) (ci := 10) (C := RX7) (T := TX7) (N := 5) (ty := tyX7) cl10 dX7_multiply_181 o9267 4 (by decide) t_551 (v := .ref 273) rfl ?_
  refine x_iload_n (M := M_X7_multiply) dX7_multiply_184 rfl ?_
  refine x_iald (M := M_X7_multiply) dX7_multiply_185 o9269 (vp_inD (by decide +kernel)) ?_
  refine x_top (M := M_X7_multiply) (y := (Int32.ofInt 0)) (by decide +kernel) ?_
  refine x_imul (M := M_X7_multiply) dX7_multiply_186 ?_
  refine x_norm (M := M_X7_multiply) (st' := [.int (Int32.ofInt 0), .int (Int32.ofInt 14), .ref 273]) rfl (vi_cons (by decide +kernel : ((Int32.ofInt 0) * (Int32.ofInt 0)) = (Int32.ofInt 0)) rfl) rfl rfl rfl ?_
  refine y_iast (M := M_X7_multiply) (k := 14) dX7_multiply_187 o9269 (vp_inD (by decide +kernel)) (by decide +kernel) (fun h9270 w9271 f9272 => ?_)
  have w9273 : ob h9270 273 = some (.inl (0, 16, .inl (fun _ => 0))) := by rw [w9271, up_z (k := 14)]
  refine x_aload_n (M := M_X7_multiply) dX7_multiply_188 rfl ?_
  refine x_iload_n (M := M_X7_multiply) dX7_multiply_189 rfl ?_
  have o9274 := (f9272 252 _ (by decide) o9267)
  have o9275 := (f9272 272 _ (by decide) w9266)
  refine y_callVR (M := M_X7_multiply) (M' := M_X7_trim) rfl rfl dX7_multiply_190 m_X7_trim t_2339 t_2341 s_150 (q8662 hl o9274 o9275 w9273) rfl rfl o9274 rfl (Nat.le_of_ble_eq_true rfl) (Nat.le_of_ble_eq_true rfl) (Nat.le_of_ble_eq_true rfl) (Nat.le_of_ble_eq_true rfl) (fun h9276 f9277 w9278 => ?_)
  obtain ⟨o9279, -⟩ := w9278
  have o9280 := (f9277 272 _ (by decide) o9275)
  exact x_vret (M := M_X7_multiply) dX7_multiply_193 rfl ⟨rfl, (fr_tr f9277 (by decide) (fr_tr f9272 (by decide) (fr_tr f9265 (by decide) fr_rf))), ⟨o9280, o9279, trivial⟩⟩ (Nat.le_of_ble_eq_true rfl) (Nat.le_of_ble_eq_true rfl)
set_option maxRecDepth 10000 in
theorem q9304 {l : Launch} {E : EE} (hl : l.stackTraces = false) {h : HP} (o9303 : ob h 266 = some (.inl (0, 280, .inl (fun _ => 0)))) : en_C l E M_J7_fill_fda19 1 0 0 [.ref 266, .int (Int32.ofInt 0), .int (Int32.ofInt 0), .int (Int32.ofInt 0)] h (pR none h) := by
  refine en_mk m_J7_fill_fda19 rfl hl (Nat.le_of_ble_eq_true rfl) ?_
  refine x_aload_n (M := M_J7_fill_fda19) dJ7_fill_fda19_0 rfl ?_
  refine x_alen (M := M_J7_fill_fda19) dJ7_fill_fda19_1 o9303 (by decide) ?_
  refine x_iload_n (M := M_J7_fill_fda19) dJ7_fill_fda19_2 rfl ?_
  refine x_iload_n (M := M_J7_fill_fda19) dJ7_fill_fda19_3 rfl ?_
  refine x_norm (M := M_J7_fill_fda19) (st' := [.int (Int32.ofInt 0), .int (Int32.ofInt 0), .int (Int32.ofInt 280)]) rfl (v_cons (v_cons (vi_cons (by decide +kernel : (Int32.ofNat 280) = (Int32.ofInt 280)) rfl))) rfl rfl rfl ?_
  refine x_callSR (M := M_J7_fill_fda19) (M' := M_J7_rangeCheck_23922) rfl rfl dJ7_fill_fda19_4 m_J7_rangeCheck_23922 t_1524 t_1525 (q7214 hl) rfl rfl (Nat.le_of_ble_eq_true rfl) (Nat.le_of_ble_eq_true rfl) (Nat.le_of_ble_eq_true rfl) (Nat.le_of_ble_eq_true rfl) ?_
  refine x_iload_n (M := M_J7_fill_fda19) dJ7_fill_fda19_7 rfl ?_
  refine x_istore (M := M_J7_fill_fda19) dJ7_fill_fda19_8 (Nat.le_of_ble_eq_true rfl) rfl ?_
  refine x_iload (M := M_J7_fill_fda19) dJ7_fill_fda19_10 rfl ?_
  refine x_iload_n (M := M_J7_fill_fda19) dJ7_fill_fda19_12 rfl ?_
  refine x_icmp_ge (M := M_J7_fill_fda19) (tgt := 27) dJ7_fill_fda19_13 (by decide) (fun _ => ?_) (fun q => absurd q (by decide +kernel))
  exact x_vret (M := M_J7_fill_fda19) dJ7_fill_fda19_27 rfl ⟨rfl, rfl⟩ (Nat.le_of_ble_eq_true rfl) (Nat.le_of_ble_eq_true rfl)
set_option maxRecDepth 10000 in
theorem q9324 {l : Launch} {E : EE} (hl : l.stackTraces = false) {h : HP} (o9317 : ob h 252 = some (.inr (10, [.ref 253, .ref 254, .ref 255, .ref 272, .ref 273]))) (o9318 : ob h 272 = some (.inl (0, 16, .inl (fun _ => 0)))) (o9319 : ob h 273 = some (.inl (0, 16, .inl (fun _ => 0)))) : en_C l E M_X7_trim 0 0 0 [.ref 252, .int (Int32.ofInt 10)] h (pF none [273] h (fun h' => ob h' 273 = some (.inl (0, 16, .inl (fun _ => 0))) ∧ True)) := by
  refine en_mk m_X7_trim rfl hl (Nat.le_of_ble_eq_true rfl) ?_
  refine x_aload_n (M := M_X7_trim) dX7_trim_0 rfl ?_
  refine x_getf (M := M_X7_trim) (ci := 10) (C := RX7) (T := TX7) (N := 5) (ty := tyX7) cl10 dX7_trim_1 o9317 3 (by decide) t_550 (v := .ref 272) rfl ?_
  refine x_iload_n (M := M_X7_trim) dX7_trim_4 rfl ?_
  refine x_iald (M := M_X7_trim) dX7_trim_5 o9318 (vp_inD (by decide +kernel)) ?_
  refine x_top (M := M_X7_trim) (y := (Int32.ofInt 0)) (by decide +kernel) ?_
  refine x_if_le (M := M_X7_trim) (tgt := 40) dX7_trim_6 (by decide) (fun _ => ?_) (fun q => absurd q (by decide +kernel))
  refine x_aload_n (M := M_X7_trim) dX7_trim_40 rfl ?_
  refine x_getf (M := M_X7_trim) (ci := 10) (C := RX7) (T := TX7) (N := 5) (ty := tyX7) cl10 dX7_trim_41 o9317 3 (by decide) t_550 (v := .ref 272) rfl ?_
  refine x_iload_n (M := M_X7_trim) dX7_trim_44 rfl ?_
  refine x_iald (M := M_X7_trim) dX7_trim_45 o9318 (vp_inD (by decide +kernel)) ?_
  refine x_top (M := M_X7_trim) (y := (Int32.ofInt 0)) (by decide +kernel) ?_
  refine x_if_ne (M := M_X7_trim) (tgt := 56) dX7_trim_46 (by decide) (fun q => absurd q (by decide +kernel)) (fun _ => ?_)
  refine x_aload_n (M := M_X7_trim) dX7_trim_49 rfl ?_
  refine x_getf (M := M_X7_trim) (ci := 10) (C := RX7) (T := TX7) (N := 5) (ty := tyX7) cl10 dX7_trim_50 o9317 4 (by decide) t_551 (v := .ref 273) rfl ?_
  refine x_iload_n (M := M_X7_trim) dX7_trim_53 rfl ?_
  refine x_iconst (M := M_X7_trim) dX7_trim_54 ?_
  refine y_iast (M := M_X7_trim) (k := 10) dX7_trim_55 o9319 (vp_inD (by decide +kernel)) (by decide +kernel) (fun h9320 w9321 f9322 => ?_)
  have w9323 : ob h9320 273 = some (.inl (0, 16, .inl (fun _ => 0))) := by rw [w9321, up_z (k := 10)]
  exact x_vret (M := M_X7_trim) dX7_trim_56 rfl ⟨rfl, (fr_tr f9322 (by decide) fr_rf), ⟨w9323, trivial⟩⟩ (Nat.le_of_ble_eq_true rfl) (Nat.le_of_ble_eq_true rfl)
set_option maxRecDepth 10000 in
theorem q9332 {l : Launch} {E : EE} (hl : l.stackTraces = false) {h : HP} (o9300 : ob h 252 = some (.inr (10, [.ref 253, .ref 254, .ref 255, .ref 272, .ref 273]))) (o9301 : ob h 272 = some (.inl (0, 16, .inl (fun _ => 0)))) (o9302 : ob h 255 = some (.inl (5, 16, .inr (.inr (.inr (.inr (fun i => if i < 16 then some (255 + 1 + i) else none))))))) (o9305 : ob h 266 = some (.inl (0, 280, .inl (fun _ => 0)))) (o9311 : ob h 273 = some (.inl (0, 16, .inl (fun _ => 0)))) : en_C l E M_X7_multiply 2 0 0 [.ref 252, .int (Int32.ofInt 10), .int (Int32.ofInt 15), .int (Int32.ofInt 0)] h (pF none [272, 273] h (fun h' => ob h' 272 = some (.inl (0, 16, .inl (fun _ => 0))) ∧ ob h' 273 = some (.inl (0, 16, .inl (fun _ => 0))) ∧ True)) := by
  refine en_mk m_X7_multiply rfl hl (Nat.le_of_ble_eq_true rfl) ?_
  refine x_aload_n (M := M_X7_multiply) dX7_multiply_0 rfl ?_
  refine x_getf (M := M_X7_multiply) (ci := 10) (C := RX7) (T := TX7) (N := 5) (ty := tyX7) cl10 dX7_multiply_1 o9300 3 (by decide) t_550 (v := .ref 272) rfl ?_
  refine x_iload_n (M := M_X7_multiply) dX7_multiply_4 rfl ?_
  refine x_iald (M := M_X7_multiply) dX7_multiply_5 o9301 (vp_inD (by decide +kernel)) ?_
  refine x_top (M := M_X7_multiply) (y := (Int32.ofInt 0)) (by decide +kernel) ?_
  refine x_aload_n (M := M_X7_multiply) dX7_multiply_6 rfl ?_
  refine x_getf (M := M_X7_multiply) (ci := 10) (C := RX7) (T := TX7) (N := 5) (ty := tyX7) cl10 dX7_multiply_7 o9300 3 (by decide) t_550 (v := .ref 272) rfl ?_
  refine x_iload_n (M := M_X7_multiply) dX7_multiply_10 rfl ?_
  refine x_iald (M := M_X7_multiply) dX7_multiply_11 o9301 (vp_inD (by decide +kernel)) ?_
  refine x_top (M := M_X7_multiply) (y := (Int32.ofInt 0)) (by decide +kernel) ?_
  refine x_iadd (M := M_X7_multiply) dX7_multiply_12 ?_
  refine x_sipush (M := M_X7_multiply) dX7_multiply_13 ?_
  refine x_mmin (M := M_X7_multiply) dX7_multiply_16 t_2351 t_626 t_20 t_627 (Nat.le_of_ble_eq_true rfl) (Nat.le_of_ble_eq_true rfl) (Nat.le_of_ble_eq_true rfl) (Nat.le_of_ble_eq_true rfl) ?_
  refine x_top (M := M_X7_multiply) (y := (Int32.ofInt 0)) (by decide +kernel) ?_
  refine x_istore (M := M_X7_multiply) dX7_multiply_19 (Nat.le_of_ble_eq_true rfl) rfl ?_
  refine x_aload_n (M := M_X7_multiply) dX7_multiply_21 rfl ?_
  refine x_getf (M := M_X7_multiply) (ci := 10) (C := RX7) (T := TX7) (N := 5) (ty := tyX7) cl10 dX7_multiply_22 o9300 2 (by decide) t_549 (v := .ref 255) rfl ?_
  refine x_iload_n (M := M_X7_multiply) dX7_multiply_25 rfl ?_
  refine x_gald (M := M_X7_multiply) (b := 266) dX7_multiply_26 o9302 (vp_inD (by decide +kernel)) (by decide +kernel) ?_
  refine x_iconst (M := M_X7_multiply) dX7_multiply_27 ?_
  refine x_iload (M := M_X7_multiply) dX7_multiply_28 rfl ?_
  refine x_iconst (M := M_X7_multiply) dX7_multiply_30 ?_
  refine x_callSR (M := M_X7_multiply) (M' := M_J7_fill_fda19) rfl rfl dX7_multiply_31 m_J7_fill_fda19 t_2337 t_1522 (q9304 hl o9305) rfl rfl (Nat.le_of_ble_eq_true rfl) (Nat.le_of_ble_eq_true rfl) (Nat.le_of_ble_eq_true rfl) (Nat.le_of_ble_eq_true rfl) ?_
  refine x_iconst (M := M_X7_multiply) dX7_multiply_34 ?_
  refine x_istore (M := M_X7_multiply) dX7_multiply_35 (Nat.le_of_ble_eq_true rfl) rfl ?_
  refine x_iload (M := M_X7_multiply) dX7_multiply_37 rfl ?_
  refine x_aload_n (M := M_X7_multiply) dX7_multiply_39 rfl ?_
  refine x_getf (M := M_X7_multiply) (ci := 10) (C := RX7) (T := TX7) (N := 5) (ty := tyX7) cl10 dX7_multiply_40 o9300 3 (by decide) t_550 (v := .ref 272) rfl ?_
  refine x_iload_n (M := M_X7_multiply) dX7_multiply_43 rfl ?_
  refine x_iald (M := M_X7_multiply) dX7_multiply_44 o9301 (vp_inD (by decide +kernel)) ?_
  refine x_top (M := M_X7_multiply) (y := (Int32.ofInt 0)) (by decide +kernel) ?_
  refine x_icmp_ge (M := M_X7_multiply) (tgt := 161) dX7_multiply_45 (by decide) (fun _ => ?_) (fun q => absurd q (by decide +kernel))
  refine x_aload_n (M := M_X7_multiply) dX7_multiply_161 rfl ?_
  refine x_getf (M := M_X7_multiply) (ci := 10) (C := RX7) (T := TX7) (N := 5) (ty := tyX7) cl10 dX7_multiply_162 o9300 3 (by decide) t_550 (v := .ref 272) rfl ?_
  refine x_iload_n (M := M_X7_multiply) dX7_multiply_165 rfl ?_
  refine x_iload (M := M_X7_multiply) dX7_multiply_166 rfl ?_
  refine y_iast (M := M_X7_multiply) (k := 10) dX7_multiply_168 o9301 (vp_inD (by decide +kernel)) (by decide +kernel) (fun h9306 w9307 f9308 => ?_)
  have w9309 : ob h9306 272 = some (.inl (0, 16, .inl (fun _ => 0))) := by rw [w9307, up_z (k := 10)]
  refine x_aload_n (M := M_X7_multiply) dX7_multiply_169 rfl ?_
  have o9310 := (f9308 252 _ (by decide) o9300)
  refine x_getf (M := M_X7_multiply) (ci := 10) (C := RX7) (T := TX7) (N := 5) (ty := tyX7) cl10 dX7_multiply_170 o9310 4 (by decide) t_551 (v := .ref 273) rfl ?_
  refine x_iload_n (M := M_X7_multiply) dX7_multiply_173 rfl ?_
  refine x_aload_n (M := M_X7_multiply) dX7_multiply_174 rfl ?_
  refine x_getf (M := M_X7_multiply) (ci := 10) (C := RX7) (T := TX7) (N := 5) (ty := tyX7) cl10 dX7_multiply_175 o9310 4 (by decide) t_551 (v := .ref 273) rfl ?_
  refine x_iload_n (M := M_X7_multiply) dX7_multiply_178 rfl ?_
  have o9312 := (f9308 273 _ (by decide) o9311)
  refine x_iald (M := M_X7_multiply) dX7_multiply_179 o9312 (vp_inD (by decide +kernel)) ?_
  refine x_top (M := M_X7_multiply) (y := (Int32.ofInt 0)) (by decide +kernel) ?_
  refine x_aload_n (M := M_X7_multiply) dX7_multiply_180 rfl ?_
  refine x_getf (M := M_X7_multiply) (ci := 10) (C := RX7) (T := TX7) (N := 5) (ty := tyX7) cl10 dX7_multiply_181 o9310 4 (by decide) t_551 (v := .ref 273) rfl ?_
  refine x_iload_n (M := M_X7_multiply) dX7_multiply_184 rfl ?_
  refine x_iald (M := M_X7_multiply) dX7_multiply_185 o9312 (vp_inD (by decide +kernel)) ?_
  refine x_top (M := M_X7_multiply) (y := (Int32.ofInt 0)) (by decide +kernel) ?_
  refine x_imul (M := M_X7_multiply) dX7_multiply_186 ?_
  refine x_norm (M := M_X7_multiply) (st' := [.int (Int32.ofInt 0), .int (Int32.ofInt 10), .ref 273]) rfl (vi_cons (by decide +kernel : ((Int32.ofInt 0) * (Int32.ofInt 0)) = (Int32.ofInt 0)) rfl) rfl rfl rfl ?_
  refine y_iast (M := M_X7_multiply) (k := 10) dX7_multiply_187 o9312 (vp_inD (by decide +kernel)) (by decide +kernel) (fun h9313 w9314 f9315 => ?_)
  have w9316 : ob h9313 273 = some (.inl (0, 16, .inl (fun _ => 0))) := by rw [w9314, up_z (k := 10)]
  refine x_aload_n (M := M_X7_multiply) dX7_multiply_188 rfl ?_
  refine x_iload_n (M := M_X7_multiply) dX7_multiply_189 rfl ?_
  have o9325 := (f9315 252 _ (by decide) o9310)
  have o9326 := (f9315 272 _ (by decide) w9309)
  refine y_callVR (M := M_X7_multiply) (M' := M_X7_trim) rfl rfl dX7_multiply_190 m_X7_trim t_2339 t_2341 s_150 (q9324 hl o9325 o9326 w9316) rfl rfl o9325 rfl (Nat.le_of_ble_eq_true rfl) (Nat.le_of_ble_eq_true rfl) (Nat.le_of_ble_eq_true rfl) (Nat.le_of_ble_eq_true rfl) (fun h9327 f9328 w9329 => ?_)
  obtain ⟨o9330, -⟩ := w9329
  have o9331 := (f9328 272 _ (by decide) o9326)
  exact x_vret (M := M_X7_multiply) dX7_multiply_193 rfl ⟨rfl, (fr_tr f9328 (by decide) (fr_tr f9315 (by decide) (fr_tr f9308 (by decide) fr_rf))), ⟨o9331, o9330, trivial⟩⟩ (Nat.le_of_ble_eq_true rfl) (Nat.le_of_ble_eq_true rfl)
set_option maxRecDepth 10000 in
theorem q9344 {l : Launch} {E : EE} (hl : l.stackTraces = false) {h : HP} (o9176 : ob h 252 = some (.inr (10, [.ref 253, .ref 254, .ref 255, .ref 272, .ref 273]))) (o9177 : ob h 272 = some (.inl (0, 16, .inl (fun _ => 0)))) (o9178 : ob h 255 = some (.inl (5, 16, .inr (.inr (.inr (.inr (fun i => if i < 16 then some (255 + 1 + i) else none))))))) (o9179 : ob h 269 = some (.inl (0, 280, .inl (fun _ => 0)))) (o9180 : ob h 273 = some (.inl (0, 16, .inl (fun _ => 0)))) (o9211 : ob h 270 = some (.inl (0, 280, .inl (fun _ => 0)))) (o9220 : ob h 271 = some (.inl (0, 280, .inl (fun _ => 0)))) (o9292 : ob h 256 = some (.inl (0, 280, .inl (fun _ => 0)))) (o9335 : ob h 266 = some (.inl (0, 280, .inl (fun _ => 0)))) : en_C l E M_X7_putTerm 3 0 0 [.ref 252, .int (Int32.ofInt 10), .int (Int32.ofInt 6), .int (Int32.ofInt 2), .int (Int32.ofInt 4)] h (pF none [272, 273, 271, 256] h (fun h' => ob h' 272 = some (.inl (0, 16, .inl (fun _ => 0))) ∧ ob h' 273 = some (.inl (0, 16, .inl (fun _ => 0))) ∧ ob h' 271 = some (.inl (0, 280, .inl (fun _ => 0))) ∧ ob h' 256 = some (.inl (0, 280, .inl (fun _ => 0))) ∧ True)) := by
  refine en_mk m_X7_putTerm rfl hl (Nat.le_of_ble_eq_true rfl) ?_
  refine x_aload_n (M := M_X7_putTerm) dX7_putTerm_0 rfl ?_
  refine x_bipush (M := M_X7_putTerm) dX7_putTerm_1 ?_
  refine x_iload_n (M := M_X7_putTerm) dX7_putTerm_3 rfl ?_
  refine x_iload_n (M := M_X7_putTerm) dX7_putTerm_4 rfl ?_
  refine x_norm (M := M_X7_putTerm) (st' := [.int (Int32.ofInt 6), .int (Int32.ofInt 6), .int (Int32.ofInt 13), .ref 252]) rfl (v_cons (v_cons (vi_cons (by decide +kernel : ((Int8.ofInt 13).toInt32) = (Int32.ofInt 13)) rfl))) rfl rfl rfl ?_
  refine y_callVR (M := M_X7_putTerm) (M' := M_X7_multiply) rfl rfl dX7_putTerm_5 m_X7_multiply t_2360 t_2362 s_155 (q9175 hl o9176 o9177 o9178 o9179 o9180) rfl rfl o9176 rfl (Nat.le_of_ble_eq_true rfl) (Nat.le_of_ble_eq_true rfl) (Nat.le_of_ble_eq_true rfl) (Nat.le_of_ble_eq_true rfl) (fun h9181 f9182 w9183 => ?_)
  obtain ⟨o9184, o9185, -⟩ := w9183
  refine x_aload_n (M := M_X7_putTerm) dX7_putTerm_8 rfl ?_
  refine x_bipush (M := M_X7_putTerm) dX7_putTerm_9 ?_
  refine x_iload_n (M := M_X7_putTerm) dX7_putTerm_11 rfl ?_
  refine x_iconst (M := M_X7_putTerm) dX7_putTerm_12 ?_
  refine x_iadd (M := M_X7_putTerm) dX7_putTerm_13 ?_
  refine x_iload_n (M := M_X7_putTerm) dX7_putTerm_14 rfl ?_
  refine x_iconst (M := M_X7_putTerm) dX7_putTerm_15 ?_
  refine x_iadd (M := M_X7_putTerm) dX7_putTerm_16 ?_
  refine x_norm (M := M_X7_putTerm) (st' := [.int (Int32.ofInt 7), .int (Int32.ofInt 7), .int (Int32.ofInt 14), .ref 252]) rfl (vi_cons (by decide +kernel : ((Int32.ofInt 6) + (Int32.ofInt 1)) = (Int32.ofInt 7)) (vi_cons (by decide +kernel : ((Int32.ofInt 6) + (Int32.ofInt 1)) = (Int32.ofInt 7)) (vi_cons (by decide +kernel : ((Int8.ofInt 14).toInt32) = (Int32.ofInt 14)) rfl))) rfl rfl rfl ?_
  have o9209 := (f9182 252 _ (by decide) o9176)
  have o9210 := (f9182 255 _ (by decide) o9178)
  have o9212 := (f9182 270 _ (by decide) o9211)
  refine y_callVR (M := M_X7_putTerm) (M' := M_X7_multiply) rfl rfl dX7_putTerm_17 m_X7_multiply t_2360 t_2362 s_155 (q9208 hl o9209 o9184 o9210 o9212 o9185) rfl rfl o9209 rfl (Nat.le_of_ble_eq_true rfl) (Nat.le_of_ble_eq_true rfl) (Nat.le_of_ble_eq_true rfl) (Nat.le_of_ble_eq_true rfl) (fun h9213 f9214 w9215 => ?_)
  obtain ⟨o9216, o9217, -⟩ := w9215
  refine x_aload_n (M := M_X7_putTerm) dX7_putTerm_20 rfl ?_
  refine x_bipush (M := M_X7_putTerm) dX7_putTerm_21 ?_
  refine x_bipush (M := M_X7_putTerm) dX7_putTerm_23 ?_
  refine x_bipush (M := M_X7_putTerm) dX7_putTerm_25 ?_
  refine x_iconst (M := M_X7_putTerm) dX7_putTerm_27 ?_
  refine x_norm (M := M_X7_putTerm) (st' := [.int (Int32.ofInt 1), .int (Int32.ofInt 14), .int (Int32.ofInt 13), .int (Int32.ofInt 15), .ref 252]) rfl (v_cons (vi_cons (by decide +kernel : ((Int8.ofInt 14).toInt32) = (Int32.ofInt 14)) (vi_cons (by decide +kernel : ((Int8.ofInt 13).toInt32) = (Int32.ofInt 13)) (vi_cons (by decide +kernel : ((Int8.ofInt 15).toInt32) = (Int32.ofInt 15)) rfl)))) rfl rfl rfl ?_
  have o9218 := (f9214 252 _ (by decide) o9209)
  have o9219 := (f9214 255 _ (by decide) o9210)
  have o9221 := (f9214 271 _ (by decide) (f9182 271 _ (by decide) o9220))
  refine y_callVR (M := M_X7_putTerm) (M' := M_X7_addSigned) rfl rfl dX7_putTerm_28 m_X7_addSigned t_2343 t_2345 s_151 (q8744 hl o9218 o9217 o9216 o9219 o9221) rfl rfl o9218 rfl (Nat.le_of_ble_eq_true rfl) (Nat.le_of_ble_eq_true rfl) (Nat.le_of_ble_eq_true rfl) (Nat.le_of_ble_eq_true rfl) (fun h9222 f9223 w9224 => ?_)
  obtain ⟨o9225, o9226, o9227, -⟩ := w9224
  refine x_aload_n (M := M_X7_putTerm) dX7_putTerm_31 rfl ?_
  refine x_bipush (M := M_X7_putTerm) dX7_putTerm_32 ?_
  refine x_iload_n (M := M_X7_putTerm) dX7_putTerm_34 rfl ?_
  refine x_iload (M := M_X7_putTerm) dX7_putTerm_35 rfl ?_
  refine x_iconst (M := M_X7_putTerm) dX7_putTerm_37 ?_
  refine x_iadd (M := M_X7_putTerm) dX7_putTerm_38 ?_
  refine x_norm (M := M_X7_putTerm) (st' := [.int (Int32.ofInt 5), .int (Int32.ofInt 2), .int (Int32.ofInt 13), .ref 252]) rfl (vi_cons (by decide +kernel : ((Int32.ofInt 4) + (Int32.ofInt 1)) = (Int32.ofInt 5)) (v_cons (vi_cons (by decide +kernel : ((Int8.ofInt 13).toInt32) = (Int32.ofInt 13)) rfl))) rfl rfl rfl ?_
  have o9251 := (f9223 252 _ (by decide) o9218)
  have o9252 := (f9223 255 _ (by decide) o9219)
  have o9253 := (f9223 269 _ (by decide) (f9214 269 _ (by decide) (f9182 269 _ (by decide) o9179)))
  refine y_callVR (M := M_X7_putTerm) (M' := M_X7_multiply) rfl rfl dX7_putTerm_39 m_X7_multiply t_2360 t_2362 s_155 (q9250 hl o9251 o9226 o9252 o9253 o9227) rfl rfl o9251 rfl (Nat.le_of_ble_eq_true rfl) (Nat.le_of_ble_eq_true rfl) (Nat.le_of_ble_eq_true rfl) (Nat.le_of_ble_eq_true rfl) (fun h9254 f9255 w9256 => ?_)
  obtain ⟨o9257, o9258, -⟩ := w9256
  refine x_aload_n (M := M_X7_putTerm) dX7_putTerm_42 rfl ?_
  refine x_bipush (M := M_X7_putTerm) dX7_putTerm_43 ?_
  refine x_iload_n (M := M_X7_putTerm) dX7_putTerm_45 rfl ?_
  refine x_iconst (M := M_X7_putTerm) dX7_putTerm_46 ?_
  refine x_iadd (M := M_X7_putTerm) dX7_putTerm_47 ?_
  refine x_iload (M := M_X7_putTerm) dX7_putTerm_48 rfl ?_
  refine x_norm (M := M_X7_putTerm) (st' := [.int (Int32.ofInt 4), .int (Int32.ofInt 3), .int (Int32.ofInt 14), .ref 252]) rfl (v_cons (vi_cons (by decide +kernel : ((Int32.ofInt 2) + (Int32.ofInt 1)) = (Int32.ofInt 3)) (vi_cons (by decide +kernel : ((Int8.ofInt 14).toInt32) = (Int32.ofInt 14)) rfl))) rfl rfl rfl ?_
  have o9282 := (f9255 252 _ (by decide) o9251)
  have o9283 := (f9255 255 _ (by decide) o9252)
  have o9284 := (f9255 270 _ (by decide) (f9223 270 _ (by decide) (f9214 270 _ (by decide) o9212)))
  refine y_callVR (M := M_X7_putTerm) (M' := M_X7_multiply) rfl rfl dX7_putTerm_50 m_X7_multiply t_2360 t_2362 s_155 (q9281 hl o9282 o9257 o9283 o9284 o9258) rfl rfl o9282 rfl (Nat.le_of_ble_eq_true rfl) (Nat.le_of_ble_eq_true rfl) (Nat.le_of_ble_eq_true rfl) (Nat.le_of_ble_eq_true rfl) (fun h9285 f9286 w9287 => ?_)
  obtain ⟨o9288, o9289, -⟩ := w9287
  refine x_aload_n (M := M_X7_putTerm) dX7_putTerm_53 rfl ?_
  refine x_iconst (M := M_X7_putTerm) dX7_putTerm_54 ?_
  refine x_bipush (M := M_X7_putTerm) dX7_putTerm_55 ?_
  refine x_bipush (M := M_X7_putTerm) dX7_putTerm_57 ?_
  refine x_iconst (M := M_X7_putTerm) dX7_putTerm_59 ?_
  refine x_norm (M := M_X7_putTerm) (st' := [.int (Int32.ofInt (-1)), .int (Int32.ofInt 14), .int (Int32.ofInt 13), .int (Int32.ofInt 0), .ref 252]) rfl (v_cons (vi_cons (by decide +kernel : ((Int8.ofInt 14).toInt32) = (Int32.ofInt 14)) (vi_cons (by decide +kernel : ((Int8.ofInt 13).toInt32) = (Int32.ofInt 13)) rfl))) rfl rfl rfl ?_
  have o9290 := (f9286 252 _ (by decide) o9282)
  have o9291 := (f9286 255 _ (by decide) o9283)
  have o9293 := (f9286 256 _ (by decide) (f9255 256 _ (by decide) (f9223 256 _ (by decide) (f9214 256 _ (by decide) (f9182 256 _ (by decide) o9292)))))
  refine y_callVR (M := M_X7_putTerm) (M' := M_X7_addSigned) rfl rfl dX7_putTerm_60 m_X7_addSigned t_2343 t_2345 s_151 (q8875 hl o9290 o9289 o9288 o9291 o9293) rfl rfl o9290 rfl (Nat.le_of_ble_eq_true rfl) (Nat.le_of_ble_eq_true rfl) (Nat.le_of_ble_eq_true rfl) (Nat.le_of_ble_eq_true rfl) (fun h9294 f9295 w9296 => ?_)
  obtain ⟨o9297, o9298, o9299, -⟩ := w9296
  refine x_aload_n (M := M_X7_putTerm) dX7_putTerm_63 rfl ?_
  refine x_iload_n (M := M_X7_putTerm) dX7_putTerm_64 rfl ?_
  refine x_bipush (M := M_X7_putTerm) dX7_putTerm_65 ?_
  refine x_iconst (M := M_X7_putTerm) dX7_putTerm_67 ?_
  refine x_norm (M := M_X7_putTerm) (st' := [.int (Int32.ofInt 0), .int (Int32.ofInt 15), .int (Int32.ofInt 10), .ref 252]) rfl (v_cons (vi_cons (by decide +kernel : ((Int8.ofInt 15).toInt32) = (Int32.ofInt 15)) rfl)) rfl rfl rfl ?_
  have o9333 := (f9295 252 _ (by decide) o9290)
  have o9334 := (f9295 255 _ (by decide) o9291)
  have o9336 := (f9295 266 _ (by decide) (f9286 266 _ (by decide) (f9255 266 _ (by decide) (f9223 266 _ (by decide) (f9214 266 _ (by decide) (f9182 266 _ (by decide) o9335))))))
  refine y_callVR (M := M_X7_putTerm) (M' := M_X7_multiply) rfl rfl dX7_putTerm_68 m_X7_multiply t_2360 t_2362 s_155 (q9332 hl o9333 o9298 o9334 o9336 o9299) rfl rfl o9333 rfl (Nat.le_of_ble_eq_true rfl) (Nat.le_of_ble_eq_true rfl) (Nat.le_of_ble_eq_true rfl) (Nat.le_of_ble_eq_true rfl) (fun h9337 f9338 w9339 => ?_)
  obtain ⟨o9340, o9341, -⟩ := w9339
  have o9342 := (f9338 271 _ (by decide) (f9295 271 _ (by decide) (f9286 271 _ (by decide) (f9255 271 _ (by decide) o9225))))
  have o9343 := (f9338 256 _ (by decide) o9297)
  exact x_vret (M := M_X7_putTerm) dX7_putTerm_71 rfl ⟨rfl, (fr_tr f9338 (by decide) (fr_tr f9295 (by decide) (fr_tr f9286 (by decide) (fr_tr f9255 (by decide) (fr_tr f9223 (by decide) (fr_tr f9214 (by decide) (fr_tr f9182 (by decide) fr_rf))))))), ⟨o9340, o9341, o9342, o9343, trivial⟩⟩ (Nat.le_of_ble_eq_true rfl) (Nat.le_of_ble_eq_true rfl)
set_option maxRecDepth 10000 in
theorem q9364 {l : Launch} {E : EE} (hl : l.stackTraces = false) {h : HP} (o9362 : ob h 252 = some (.inr (10, [.ref 253, .ref 254, .ref 255, .ref 272, .ref 273]))) (o9363 : ob h 272 = some (.inl (0, 16, .inl (fun _ => 0)))) : en_C l E M_X7_limbAt 0 0 0 [.ref 252, .int (Int32.ofInt 8), .int (Int32.ofInt 0)] h (pR (some (.long (Int64.ofInt 0))) h) := by
  refine en_mk m_X7_limbAt rfl hl (Nat.le_of_ble_eq_true rfl) ?_
  refine x_iload_n (M := M_X7_limbAt) dX7_limbAt_0 rfl ?_
  refine x_aload_n (M := M_X7_limbAt) dX7_limbAt_1 rfl ?_
  refine x_getf (M := M_X7_limbAt) (ci := 10) (C := RX7) (T := TX7) (N := 5) (ty := tyX7) cl10 dX7_limbAt_2 o9362 3 (by decide) t_550 (v := .ref 272) rfl ?_
  refine x_iload_n (M := M_X7_limbAt) dX7_limbAt_5 rfl ?_
  refine x_iald (M := M_X7_limbAt) dX7_limbAt_6 o9363 (vp_inD (by decide +kernel)) ?_
  refine x_top (M := M_X7_limbAt) (y := (Int32.ofInt 0)) (by decide +kernel) ?_
  refine x_icmp_ge (M := M_X7_limbAt) (tgt := 26) dX7_limbAt_7 (by decide) (fun _ => ?_) (fun q => absurd q (by decide +kernel))
  refine x_lconst (M := M_X7_limbAt) dX7_limbAt_26 ?_
  refine x_topl (M := M_X7_limbAt) (y := (Int64.ofInt 0)) (by decide +kernel) ?_
  exact x_lret (M := M_X7_limbAt) dX7_limbAt_27 rfl ⟨rfl, rfl⟩ (Nat.le_of_ble_eq_true rfl) (Nat.le_of_ble_eq_true rfl)
set_option maxRecDepth 10000 in
theorem q9367 {l : Launch} {E : EE} (hl : l.stackTraces = false) {h : HP} (o9365 : ob h 252 = some (.inr (10, [.ref 253, .ref 254, .ref 255, .ref 272, .ref 273]))) (o9366 : ob h 272 = some (.inl (0, 16, .inl (fun _ => 0)))) : en_C l E M_X7_limbAt 0 0 0 [.ref 252, .int (Int32.ofInt 9), .int (Int32.ofInt 0)] h (pR (some (.long (Int64.ofInt 0))) h) := by
  refine en_mk m_X7_limbAt rfl hl (Nat.le_of_ble_eq_true rfl) ?_
  refine x_iload_n (M := M_X7_limbAt) dX7_limbAt_0 rfl ?_
  refine x_aload_n (M := M_X7_limbAt) dX7_limbAt_1 rfl ?_
  refine x_getf (M := M_X7_limbAt) (ci := 10) (C := RX7) (T := TX7) (N := 5) (ty := tyX7) cl10 dX7_limbAt_2 o9365 3 (by decide) t_550 (v := .ref 272) rfl ?_
  refine x_iload_n (M := M_X7_limbAt) dX7_limbAt_5 rfl ?_
  refine x_iald (M := M_X7_limbAt) dX7_limbAt_6 o9366 (vp_inD (by decide +kernel)) ?_
  refine x_top (M := M_X7_limbAt) (y := (Int32.ofInt 0)) (by decide +kernel) ?_
  refine x_icmp_ge (M := M_X7_limbAt) (tgt := 26) dX7_limbAt_7 (by decide) (fun _ => ?_) (fun q => absurd q (by decide +kernel))
  refine x_lconst (M := M_X7_limbAt) dX7_limbAt_26 ?_
  refine x_topl (M := M_X7_limbAt) (y := (Int64.ofInt 0)) (by decide +kernel) ?_
  exact x_lret (M := M_X7_limbAt) dX7_limbAt_27 rfl ⟨rfl, rfl⟩ (Nat.le_of_ble_eq_true rfl) (Nat.le_of_ble_eq_true rfl)
set_option maxRecDepth 10000 in
theorem q9380 {l : Launch} {E : EE} (hl : l.stackTraces = false) {h : HP} (o9360 : ob h 252 = some (.inr (10, [.ref 253, .ref 254, .ref 255, .ref 272, .ref 273]))) (o9361 : ob h 272 = some (.inl (0, 16, .inl (fun _ => 0)))) (o9368 : ob h 255 = some (.inl (5, 16, .inr (.inr (.inr (.inr (fun i => if i < 16 then some (255 + 1 + i) else none))))))) (o9369 : ob h 267 = some (.inl (0, 280, .inl (fun _ => 0)))) : en_C l E M_X7_addLimbs 1 0 0 [.ref 252, .int (Int32.ofInt 11), .int (Int32.ofInt 8), .int (Int32.ofInt 9), .int (Int32.ofInt 1)] h (pF none [267, 272] h (fun h' => ob h' 267 = some (.inl (0, 280, .inl (fun _ => 0))) ∧ ob h' 272 = some (.inl (0, 16, .inl (upd (fun _ => 0) 11 (Int32.ofInt 1)))) ∧ True)) := by
  refine en_mk m_X7_addLimbs rfl hl (Nat.le_of_ble_eq_true rfl) ?_
  refine x_aload_n (M := M_X7_addLimbs) dX7_addLimbs_0 rfl ?_
  refine x_getf (M := M_X7_addLimbs) (ci := 10) (C := RX7) (T := TX7) (N := 5) (ty := tyX7) cl10 dX7_addLimbs_1 o9360 3 (by decide) t_550 (v := .ref 272) rfl ?_
  refine x_iload_n (M := M_X7_addLimbs) dX7_addLimbs_4 rfl ?_
  refine x_iald (M := M_X7_addLimbs) dX7_addLimbs_5 o9361 (vp_inD (by decide +kernel)) ?_
  refine x_top (M := M_X7_addLimbs) (y := (Int32.ofInt 0)) (by decide +kernel) ?_
  refine x_aload_n (M := M_X7_addLimbs) dX7_addLimbs_6 rfl ?_
  refine x_getf (M := M_X7_addLimbs) (ci := 10) (C := RX7) (T := TX7) (N := 5) (ty := tyX7) cl10 dX7_addLimbs_7 o9360 3 (by decide) t_550 (v := .ref 272) rfl ?_
  refine x_iload_n (M := M_X7_addLimbs) dX7_addLimbs_10 rfl ?_
  refine x_iald (M := M_X7_addLimbs) dX7_addLimbs_11 o9361 (vp_inD (by decide +kernel)) ?_
  refine x_top (M := M_X7_addLimbs) (y := (Int32.ofInt 0)) (by decide +kernel) ?_
  refine x_mmax (M := M_X7_addLimbs) dX7_addLimbs_12 t_2336 t_1013 t_20 t_1014 (Nat.le_of_ble_eq_true rfl) (Nat.le_of_ble_eq_true rfl) (Nat.le_of_ble_eq_true rfl) (Nat.le_of_ble_eq_true rfl) ?_
  refine x_top (M := M_X7_addLimbs) (y := (Int32.ofInt 0)) (by decide +kernel) ?_
  refine x_iconst (M := M_X7_addLimbs) dX7_addLimbs_15 ?_
  refine x_iadd (M := M_X7_addLimbs) dX7_addLimbs_16 ?_
  refine x_sipush (M := M_X7_addLimbs) dX7_addLimbs_17 ?_
  refine x_mmin (M := M_X7_addLimbs) dX7_addLimbs_20 t_2351 t_626 t_20 t_627 (Nat.le_of_ble_eq_true rfl) (Nat.le_of_ble_eq_true rfl) (Nat.le_of_ble_eq_true rfl) (Nat.le_of_ble_eq_true rfl) ?_
  refine x_top (M := M_X7_addLimbs) (y := (Int32.ofInt 1)) (by decide +kernel) ?_
  refine x_istore (M := M_X7_addLimbs) dX7_addLimbs_23 (Nat.le_of_ble_eq_true rfl) rfl ?_
  refine x_lconst (M := M_X7_addLimbs) dX7_addLimbs_25 ?_
  refine x_topl (M := M_X7_addLimbs) (y := (Int64.ofInt 0)) (by decide +kernel) ?_
  refine x_lstore (M := M_X7_addLimbs) dX7_addLimbs_26 (Nat.le_of_ble_eq_true rfl) rfl ?_
  refine x_iconst (M := M_X7_addLimbs) dX7_addLimbs_28 ?_
  refine x_istore (M := M_X7_addLimbs) dX7_addLimbs_29 (Nat.le_of_ble_eq_true rfl) rfl ?_
  refine x_iload (M := M_X7_addLimbs) dX7_addLimbs_31 rfl ?_
  refine x_iload (M := M_X7_addLimbs) dX7_addLimbs_33 rfl ?_
  refine x_icmp_ge (M := M_X7_addLimbs) (tgt := 87) dX7_addLimbs_35 (by decide) (fun q => absurd q (by decide +kernel)) (fun _ => ?_)
  refine x_aload_n (M := M_X7_addLimbs) dX7_addLimbs_38 rfl ?_
  refine x_iload_n (M := M_X7_addLimbs) dX7_addLimbs_39 rfl ?_
  refine x_iload (M := M_X7_addLimbs) dX7_addLimbs_40 rfl ?_
  refine x_callVR (M := M_X7_addLimbs) (M' := M_X7_limbAt) rfl rfl dX7_addLimbs_42 m_X7_limbAt t_2352 t_2354 s_153 (q9364 hl o9360 o9361) rfl rfl o9360 rfl (Nat.le_of_ble_eq_true rfl) (Nat.le_of_ble_eq_true rfl) (Nat.le_of_ble_eq_true rfl) (Nat.le_of_ble_eq_true rfl) ?_
  refine x_iload (M := M_X7_addLimbs) dX7_addLimbs_45 rfl ?_
  refine x_i2l (M := M_X7_addLimbs) dX7_addLimbs_47 ?_
  refine x_aload_n (M := M_X7_addLimbs) dX7_addLimbs_48 rfl ?_
  refine x_iload_n (M := M_X7_addLimbs) dX7_addLimbs_49 rfl ?_
  refine x_iload (M := M_X7_addLimbs) dX7_addLimbs_50 rfl ?_
  refine x_callVR (M := M_X7_addLimbs) (M' := M_X7_limbAt) rfl rfl dX7_addLimbs_52 m_X7_limbAt t_2352 t_2354 s_153 (q9367 hl o9360 o9361) rfl rfl o9360 rfl (Nat.le_of_ble_eq_true rfl) (Nat.le_of_ble_eq_true rfl) (Nat.le_of_ble_eq_true rfl) (Nat.le_of_ble_eq_true rfl) ?_
  refine x_lmul (M := M_X7_addLimbs) dX7_addLimbs_55 ?_
  refine x_ladd (M := M_X7_addLimbs) dX7_addLimbs_56 ?_
  refine x_lload (M := M_X7_addLimbs) dX7_addLimbs_57 rfl ?_
  refine x_ladd (M := M_X7_addLimbs) dX7_addLimbs_59 ?_
  refine x_topl (M := M_X7_addLimbs) (y := (Int64.ofInt 0)) (by decide +kernel) ?_
  refine x_lstore (M := M_X7_addLimbs) dX7_addLimbs_60 (Nat.le_of_ble_eq_true rfl) rfl ?_
  refine x_aload_n (M := M_X7_addLimbs) dX7_addLimbs_62 rfl ?_
  refine x_getf (M := M_X7_addLimbs) (ci := 10) (C := RX7) (T := TX7) (N := 5) (ty := tyX7) cl10 dX7_addLimbs_63 o9360 2 (by decide) t_549 (v := .ref 255) rfl ?_
  refine x_iload_n (M := M_X7_addLimbs) dX7_addLimbs_66 rfl ?_
  refine x_gald (M := M_X7_addLimbs) (b := 267) dX7_addLimbs_67 o9368 (vp_inD (by decide +kernel)) (by decide +kernel) ?_
  refine x_iload (M := M_X7_addLimbs) dX7_addLimbs_68 rfl ?_
  refine x_lload (M := M_X7_addLimbs) dX7_addLimbs_70 rfl ?_
  refine x_l2i (M := M_X7_addLimbs) dX7_addLimbs_72 ?_
  refine x_norm (M := M_X7_addLimbs) (st' := [.int (Int32.ofInt 0), .int (Int32.ofInt 0), .ref 267]) rfl (vi_cons (by decide +kernel : ((Int64.ofInt 0).toInt32) = (Int32.ofInt 0)) rfl) rfl rfl rfl ?_
  refine y_iast (M := M_X7_addLimbs) (k := 0) dX7_addLimbs_73 o9369 (vp_inD (by decide +kernel)) (by decide +kernel) (fun h9370 w9371 f9372 => ?_)
  have w9373 : ob h9370 267 = some (.inl (0, 280, .inl (fun _ => 0))) := by rw [w9371, up_z (k := 0)]
  refine x_lload (M := M_X7_addLimbs) dX7_addLimbs_74 rfl ?_
  refine x_bipush (M := M_X7_addLimbs) dX7_addLimbs_76 ?_
  refine x_lshr (M := M_X7_addLimbs) dX7_addLimbs_78 ?_
  refine x_topl (M := M_X7_addLimbs) (y := (Int64.ofInt 0)) (by decide +kernel) ?_
  refine x_lstore (M := M_X7_addLimbs) dX7_addLimbs_79 (Nat.le_of_ble_eq_true rfl) rfl ?_
  refine x_lvs (M := M_X7_addLimbs) (lv' := [some (.ref 252), some (.int (Int32.ofInt 11)), some (.int (Int32.ofInt 8)), some (.int (Int32.ofInt 9)), some (.int (Int32.ofInt 1)), some (.int (Int32.ofInt 1)), some (.long (Int64.ofInt 0)), none, some (.int (Int32.ofInt 0)), some (.long (Int64.ofInt 0)), none]) rfl ?_
  refine x_iinc (M := M_X7_addLimbs) dX7_addLimbs_81 rfl (Nat.le_of_ble_eq_true rfl) rfl ?_
  refine x_lvs (M := M_X7_addLimbs) (lv' := [some (.ref 252), some (.int (Int32.ofInt 11)), some (.int (Int32.ofInt 8)), some (.int (Int32.ofInt 9)), some (.int (Int32.ofInt 1)), some (.int (Int32.ofInt 1)), some (.long (Int64.ofInt 0)), none, some (.int (Int32.ofInt 1)), some (.long (Int64.ofInt 0)), none]) (by rw [(by decide +kernel : (Int32.ofInt 0) + Int32.ofInt 1 = (Int32.ofInt 1))] <;> rfl) ?_
  refine x_goto (M := M_X7_addLimbs) (tgt := 31) dX7_addLimbs_84 (by decide) ?_
  refine x_iload (M := M_X7_addLimbs) dX7_addLimbs_31 rfl ?_
  refine x_iload (M := M_X7_addLimbs) dX7_addLimbs_33 rfl ?_
  refine x_icmp_ge (M := M_X7_addLimbs) (tgt := 87) dX7_addLimbs_35 (by decide) (fun _ => ?_) (fun q => absurd q (by decide +kernel))
  refine x_aload_n (M := M_X7_addLimbs) dX7_addLimbs_87 rfl ?_
  have o9374 := (f9372 252 _ (by decide) o9360)
  refine x_getf (M := M_X7_addLimbs) (ci := 10) (C := RX7) (T := TX7) (N := 5) (ty := tyX7) cl10 dX7_addLimbs_88 o9374 3 (by decide) t_550 (v := .ref 272) rfl ?_
  refine x_iload_n (M := M_X7_addLimbs) dX7_addLimbs_91 rfl ?_
  refine x_iload (M := M_X7_addLimbs) dX7_addLimbs_92 rfl ?_
  have o9375 := (f9372 272 _ (by decide) o9361)
  refine y_iast (M := M_X7_addLimbs) (k := 11) dX7_addLimbs_94 o9375 (vp_inD (by decide +kernel)) (by decide +kernel) (fun h9376 w9377 f9378 => ?_)
  have o9379 := (f9378 267 _ (by decide) w9373)
  exact x_vret (M := M_X7_addLimbs) dX7_addLimbs_95 rfl ⟨rfl, (fr_tr f9378 (by decide) (fr_tr f9372 (by decide) fr_rf)), ⟨o9379, w9377, trivial⟩⟩ (Nat.le_of_ble_eq_true rfl) (Nat.le_of_ble_eq_true rfl)
set_option maxRecDepth 10000 in
theorem q9411 {l : Launch} {E : EE} (hl : l.stackTraces = false) {h : HP} (o9395 : ob h 252 = some (.inr (10, [.ref 253, .ref 254, .ref 255, .ref 272, .ref 273]))) (o9396 : ob h 272 = some (.inl (0, 16, .inl (upd (fun _ => 0) 11 (Int32.ofInt 1))))) (o9397 : ob h 255 = some (.inl (5, 16, .inr (.inr (.inr (.inr (fun i => if i < 16 then some (255 + 1 + i) else none))))))) (o9398 : ob h 267 = some (.inl (0, 280, .inl (fun _ => 0)))) (o9404 : ob h 273 = some (.inl (0, 16, .inl (fun _ => 0)))) : en_C l E M_X7_trim 0 0 0 [.ref 252, .int (Int32.ofInt 11)] h (pF none [272, 273] h (fun h' => ob h' 272 = some (.inl (0, 16, .inl (fun _ => 0))) ∧ ob h' 273 = some (.inl (0, 16, .inl (fun _ => 0))) ∧ True)) := by
  refine en_mk m_X7_trim rfl hl (Nat.le_of_ble_eq_true rfl) ?_
  refine x_aload_n (M := M_X7_trim) dX7_trim_0 rfl ?_
  refine x_getf (M := M_X7_trim) (ci := 10) (C := RX7) (T := TX7) (N := 5) (ty := tyX7) cl10 dX7_trim_1 o9395 3 (by decide) t_550 (v := .ref 272) rfl ?_
  refine x_iload_n (M := M_X7_trim) dX7_trim_4 rfl ?_
  refine x_iald (M := M_X7_trim) dX7_trim_5 o9396 (vp_inD (by decide +kernel)) ?_
  refine x_top (M := M_X7_trim) (y := (Int32.ofInt 1)) (by decide +kernel) ?_
  refine x_if_le (M := M_X7_trim) (tgt := 40) dX7_trim_6 (by decide) (fun q => absurd q (by decide +kernel)) (fun _ => ?_)
  refine x_aload_n (M := M_X7_trim) dX7_trim_9 rfl ?_
  refine x_getf (M := M_X7_trim) (ci := 10) (C := RX7) (T := TX7) (N := 5) (ty := tyX7) cl10 dX7_trim_10 o9395 2 (by decide) t_549 (v := .ref 255) rfl ?_
  refine x_iload_n (M := M_X7_trim) dX7_trim_13 rfl ?_
  refine x_gald (M := M_X7_trim) (b := 267) dX7_trim_14 o9397 (vp_inD (by decide +kernel)) (by decide +kernel) ?_
  refine x_aload_n (M := M_X7_trim) dX7_trim_15 rfl ?_
  refine x_getf (M := M_X7_trim) (ci := 10) (C := RX7) (T := TX7) (N := 5) (ty := tyX7) cl10 dX7_trim_16 o9395 3 (by decide) t_550 (v := .ref 272) rfl ?_
  refine x_iload_n (M := M_X7_trim) dX7_trim_19 rfl ?_
  refine x_iald (M := M_X7_trim) dX7_trim_20 o9396 (vp_inD (by decide +kernel)) ?_
  refine x_top (M := M_X7_trim) (y := (Int32.ofInt 1)) (by decide +kernel) ?_
  refine x_iconst (M := M_X7_trim) dX7_trim_21 ?_
  refine x_isub (M := M_X7_trim) dX7_trim_22 ?_
  refine x_iald (M := M_X7_trim) dX7_trim_23 o9398 (vp_inD (by decide +kernel)) ?_
  refine x_top (M := M_X7_trim) (y := (Int32.ofInt 0)) (by decide +kernel) ?_
  refine x_if_ne (M := M_X7_trim) (tgt := 40) dX7_trim_24 (by decide) (fun q => absurd q (by decide +kernel)) (fun _ => ?_)
  refine x_aload_n (M := M_X7_trim) dX7_trim_27 rfl ?_
  refine x_getf (M := M_X7_trim) (ci := 10) (C := RX7) (T := TX7) (N := 5) (ty := tyX7) cl10 dX7_trim_28 o9395 3 (by decide) t_550 (v := .ref 272) rfl ?_
  refine x_iload_n (M := M_X7_trim) dX7_trim_31 rfl ?_
  refine x_dup2 (M := M_X7_trim) dX7_trim_32 rfl rfl ?_
  refine x_iald (M := M_X7_trim) dX7_trim_33 o9396 (vp_inD (by decide +kernel)) ?_
  refine x_top (M := M_X7_trim) (y := (Int32.ofInt 1)) (by decide +kernel) ?_
  refine x_iconst (M := M_X7_trim) dX7_trim_34 ?_
  refine x_isub (M := M_X7_trim) dX7_trim_35 ?_
  refine x_norm (M := M_X7_trim) (st' := [.int (Int32.ofInt 0), .int (Int32.ofInt 11), .ref 272]) rfl (vi_cons (by decide +kernel : ((Int32.ofInt 1) - (Int32.ofInt 1)) = (Int32.ofInt 0)) rfl) rfl rfl rfl ?_
  refine y_iast (M := M_X7_trim) (k := 11) dX7_trim_36 o9396 (vp_inD (by decide +kernel)) (by decide +kernel) (fun h9399 w9400 f9401 => ?_)
  have w9402 : ob h9399 272 = some (.inl (0, 16, .inl (fun _ => 0))) := by rw [w9400, up_up (k := 11), up_z (k := 11)]
  refine x_goto (M := M_X7_trim) (tgt := 0) dX7_trim_37 (by decide) ?_
  refine x_aload_n (M := M_X7_trim) dX7_trim_0 rfl ?_
  have o9403 := (f9401 252 _ (by decide) o9395)
  refine x_getf (M := M_X7_trim) (ci := 10) (C := RX7) (T := TX7) (N := 5) (ty := tyX7) cl10 dX7_trim_1 o9403 3 (by decide) t_550 (v := .ref 272) rfl ?_
  refine x_iload_n (M := M_X7_trim) dX7_trim_4 rfl ?_
  refine x_iald (M := M_X7_trim) dX7_trim_5 w9402 (vp_inD (by decide +kernel)) ?_
  refine x_top (M := M_X7_trim) (y := (Int32.ofInt 0)) (by decide +kernel) ?_
  refine x_if_le (M := M_X7_trim) (tgt := 40) dX7_trim_6 (by decide) (fun _ => ?_) (fun q => absurd q (by decide +kernel))
  refine x_aload_n (M := M_X7_trim) dX7_trim_40 rfl ?_
  refine x_getf (M := M_X7_trim) (ci := 10) (C := RX7) (T := TX7) (N := 5) (ty := tyX7) cl10 dX7_trim_41 o9403 3 (by decide) t_550 (v := .ref 272) rfl ?_
  refine x_iload_n (M := M_X7_trim) dX7_trim_44 rfl ?_
  refine x_iald (M := M_X7_trim) dX7_trim_45 w9402 (vp_inD (by decide +kernel)) ?_
  refine x_top (M := M_X7_trim) (y := (Int32.ofInt 0)) (by decide +kernel) ?_
  refine x_if_ne (M := M_X7_trim) (tgt := 56) dX7_trim_46 (by decide) (fun q => absurd q (by decide +kernel)) (fun _ => ?_)
  refine x_aload_n (M := M_X7_trim) dX7_trim_49 rfl ?_
  refine x_getf (M := M_X7_trim) (ci := 10) (C := RX7) (T := TX7) (N := 5) (ty := tyX7) cl10 dX7_trim_50 o9403 4 (by decide) t_551 (v := .ref 273) rfl ?_
  refine x_iload_n (M := M_X7_trim) dX7_trim_53 rfl ?_
  refine x_iconst (M := M_X7_trim) dX7_trim_54 ?_
  have o9405 := (f9401 273 _ (by decide) o9404)
  refine y_iast (M := M_X7_trim) (k := 11) dX7_trim_55 o9405 (vp_inD (by decide +kernel)) (by decide +kernel) (fun h9406 w9407 f9408 => ?_)
  have w9409 : ob h9406 273 = some (.inl (0, 16, .inl (fun _ => 0))) := by rw [w9407, up_z (k := 11)]
  have o9410 := (f9408 272 _ (by decide) w9402)
  exact x_vret (M := M_X7_trim) dX7_trim_56 rfl ⟨rfl, (fr_tr f9408 (by decide) (fr_tr f9401 (by decide) fr_rf)), ⟨o9410, w9409, trivial⟩⟩ (Nat.le_of_ble_eq_true rfl) (Nat.le_of_ble_eq_true rfl)
set_option maxRecDepth 10000 in
theorem q9422 {l : Launch} {E : EE} (hl : l.stackTraces = false) {h : HP} (o9358 : ob h 252 = some (.inr (10, [.ref 253, .ref 254, .ref 255, .ref 272, .ref 273]))) (o9359 : ob h 273 = some (.inl (0, 16, .inl (fun _ => 0)))) (o9381 : ob h 272 = some (.inl (0, 16, .inl (fun _ => 0)))) (o9382 : ob h 255 = some (.inl (5, 16, .inr (.inr (.inr (.inr (fun i => if i < 16 then some (255 + 1 + i) else none))))))) (o9383 : ob h 267 = some (.inl (0, 280, .inl (fun _ => 0)))) : en_C l E M_X7_addSigned 2 0 0 [.ref 252, .int (Int32.ofInt 11), .int (Int32.ofInt 8), .int (Int32.ofInt 9), .int (Int32.ofInt 1)] h (pF none [267, 272, 273] h (fun h' => ob h' 267 = some (.inl (0, 280, .inl (fun _ => 0))) ∧ ob h' 272 = some (.inl (0, 16, .inl (fun _ => 0))) ∧ ob h' 273 = some (.inl (0, 16, .inl (fun _ => 0))) ∧ True)) := by
  refine en_mk m_X7_addSigned rfl hl (Nat.le_of_ble_eq_true rfl) ?_
  refine x_aload_n (M := M_X7_addSigned) dX7_addSigned_0 rfl ?_
  refine x_getf (M := M_X7_addSigned) (ci := 10) (C := RX7) (T := TX7) (N := 5) (ty := tyX7) cl10 dX7_addSigned_1 o9358 4 (by decide) t_551 (v := .ref 273) rfl ?_
  refine x_iload_n (M := M_X7_addSigned) dX7_addSigned_4 rfl ?_
  refine x_iald (M := M_X7_addSigned) dX7_addSigned_5 o9359 (vp_inD (by decide +kernel)) ?_
  refine x_top (M := M_X7_addSigned) (y := (Int32.ofInt 0)) (by decide +kernel) ?_
  refine x_iload (M := M_X7_addSigned) dX7_addSigned_6 rfl ?_
  refine x_imul (M := M_X7_addSigned) dX7_addSigned_8 ?_
  refine x_top (M := M_X7_addSigned) (y := (Int32.ofInt 0)) (by decide +kernel) ?_
  refine x_istore (M := M_X7_addSigned) dX7_addSigned_9 (Nat.le_of_ble_eq_true rfl) rfl ?_
  refine x_aload_n (M := M_X7_addSigned) dX7_addSigned_11 rfl ?_
  refine x_getf (M := M_X7_addSigned) (ci := 10) (C := RX7) (T := TX7) (N := 5) (ty := tyX7) cl10 dX7_addSigned_12 o9358 4 (by decide) t_551 (v := .ref 273) rfl ?_
  refine x_iload_n (M := M_X7_addSigned) dX7_addSigned_15 rfl ?_
  refine x_iald (M := M_X7_addSigned) dX7_addSigned_16 o9359 (vp_inD (by decide +kernel)) ?_
  refine x_top (M := M_X7_addSigned) (y := (Int32.ofInt 0)) (by decide +kernel) ?_
  refine x_iload (M := M_X7_addSigned) dX7_addSigned_17 rfl ?_
  refine x_imul (M := M_X7_addSigned) dX7_addSigned_19 ?_
  refine x_if_lt (M := M_X7_addSigned) (tgt := 64) dX7_addSigned_20 (by decide) (fun q => absurd q (by decide +kernel)) (fun _ => ?_)
  refine x_aload_n (M := M_X7_addSigned) dX7_addSigned_23 rfl ?_
  refine x_getf (M := M_X7_addSigned) (ci := 10) (C := RX7) (T := TX7) (N := 5) (ty := tyX7) cl10 dX7_addSigned_24 o9358 4 (by decide) t_551 (v := .ref 273) rfl ?_
  refine x_iload_n (M := M_X7_addSigned) dX7_addSigned_27 rfl ?_
  refine x_iald (M := M_X7_addSigned) dX7_addSigned_28 o9359 (vp_inD (by decide +kernel)) ?_
  refine x_top (M := M_X7_addSigned) (y := (Int32.ofInt 0)) (by decide +kernel) ?_
  refine x_if_eq (M := M_X7_addSigned) (tgt := 41) dX7_addSigned_29 (by decide) (fun _ => ?_) (fun q => absurd q (by decide +kernel))
  refine x_iload (M := M_X7_addSigned) dX7_addSigned_41 rfl ?_
  refine x_istore (M := M_X7_addSigned) dX7_addSigned_43 (Nat.le_of_ble_eq_true rfl) rfl ?_
  refine x_aload_n (M := M_X7_addSigned) dX7_addSigned_45 rfl ?_
  refine x_iload_n (M := M_X7_addSigned) dX7_addSigned_46 rfl ?_
  refine x_iload_n (M := M_X7_addSigned) dX7_addSigned_47 rfl ?_
  refine x_iload_n (M := M_X7_addSigned) dX7_addSigned_48 rfl ?_
  refine x_iconst (M := M_X7_addSigned) dX7_addSigned_49 ?_
  refine y_callVR (M := M_X7_addSigned) (M' := M_X7_addLimbs) rfl rfl dX7_addSigned_50 m_X7_addLimbs t_2347 t_2349 s_152 (q9380 hl o9358 o9381 o9382 o9383) rfl rfl o9358 rfl (Nat.le_of_ble_eq_true rfl) (Nat.le_of_ble_eq_true rfl) (Nat.le_of_ble_eq_true rfl) (Nat.le_of_ble_eq_true rfl) (fun h9384 f9385 w9386 => ?_)
  obtain ⟨o9387, o9388, -⟩ := w9386
  refine x_aload_n (M := M_X7_addSigned) dX7_addSigned_53 rfl ?_
  have o9389 := (f9385 252 _ (by decide) o9358)
  refine x_getf (M := M_X7_addSigned) (ci := 10) (C := RX7) (T := TX7) (N := 5) (ty := tyX7) cl10 dX7_addSigned_54 o9389 4 (by decide) t_551 (v := .ref 273) rfl ?_
  refine x_iload_n (M := M_X7_addSigned) dX7_addSigned_57 rfl ?_
  refine x_iload (M := M_X7_addSigned) dX7_addSigned_58 rfl ?_
  have o9390 := (f9385 273 _ (by decide) o9359)
  refine y_iast (M := M_X7_addSigned) (k := 11) dX7_addSigned_60 o9390 (vp_inD (by decide +kernel)) (by decide +kernel) (fun h9391 w9392 f9393 => ?_)
  have w9394 : ob h9391 273 = some (.inl (0, 16, .inl (fun _ => 0))) := by rw [w9392, up_z (k := 11)]
  refine x_goto (M := M_X7_addSigned) (tgt := 112) dX7_addSigned_61 (by decide) ?_
  refine x_aload_n (M := M_X7_addSigned) dX7_addSigned_112 rfl ?_
  refine x_iload_n (M := M_X7_addSigned) dX7_addSigned_113 rfl ?_
  have o9412 := (f9393 252 _ (by decide) o9389)
  have o9413 := (f9393 272 _ (by decide) o9388)
  have o9414 := (f9393 255 _ (by decide) (f9385 255 _ (by decide) o9382))
  have o9415 := (f9393 267 _ (by decide) o9387)
  refine y_callVR (M := M_X7_addSigned) (M' := M_X7_trim) rfl rfl dX7_addSigned_114 m_X7_trim t_2339 t_2341 s_150 (q9411 hl o9412 o9413 o9414 o9415 w9394) rfl rfl o9412 rfl (Nat.le_of_ble_eq_true rfl) (Nat.le_of_ble_eq_true rfl) (Nat.le_of_ble_eq_true rfl) (Nat.le_of_ble_eq_true rfl) (fun h9416 f9417 w9418 => ?_)
  obtain ⟨o9419, o9420, -⟩ := w9418
  have o9421 := (f9417 267 _ (by decide) o9415)
  exact x_vret (M := M_X7_addSigned) dX7_addSigned_117 rfl ⟨rfl, (fr_tr f9417 (by decide) (fr_tr f9393 (by decide) (fr_tr f9385 (by decide) fr_rf))), ⟨o9421, o9419, o9420, trivial⟩⟩ (Nat.le_of_ble_eq_true rfl) (Nat.le_of_ble_eq_true rfl)
set_option maxRecDepth 10000 in
theorem q9439 {l : Launch} {E : EE} (hl : l.stackTraces = false) {h : HP} (o9437 : ob h 252 = some (.inr (10, [.ref 253, .ref 254, .ref 255, .ref 272, .ref 273]))) (o9438 : ob h 272 = some (.inl (0, 16, .inl (fun _ => 0)))) : en_C l E M_X7_limbAt 0 0 0 [.ref 252, .int (Int32.ofInt 11), .int (Int32.ofInt 0)] h (pR (some (.long (Int64.ofInt 0))) h) := by
  refine en_mk m_X7_limbAt rfl hl (Nat.le_of_ble_eq_true rfl) ?_
  refine x_iload_n (M := M_X7_limbAt) dX7_limbAt_0 rfl ?_
  refine x_aload_n (M := M_X7_limbAt) dX7_limbAt_1 rfl ?_
  refine x_getf (M := M_X7_limbAt) (ci := 10) (C := RX7) (T := TX7) (N := 5) (ty := tyX7) cl10 dX7_limbAt_2 o9437 3 (by decide) t_550 (v := .ref 272) rfl ?_
  refine x_iload_n (M := M_X7_limbAt) dX7_limbAt_5 rfl ?_
  refine x_iald (M := M_X7_limbAt) dX7_limbAt_6 o9438 (vp_inD (by decide +kernel)) ?_
  refine x_top (M := M_X7_limbAt) (y := (Int32.ofInt 0)) (by decide +kernel) ?_
  refine x_icmp_ge (M := M_X7_limbAt) (tgt := 26) dX7_limbAt_7 (by decide) (fun _ => ?_) (fun q => absurd q (by decide +kernel))
  refine x_lconst (M := M_X7_limbAt) dX7_limbAt_26 ?_
  refine x_topl (M := M_X7_limbAt) (y := (Int64.ofInt 0)) (by decide +kernel) ?_
  exact x_lret (M := M_X7_limbAt) dX7_limbAt_27 rfl ⟨rfl, rfl⟩ (Nat.le_of_ble_eq_true rfl) (Nat.le_of_ble_eq_true rfl)
set_option maxRecDepth 10000 in
theorem q9442 {l : Launch} {E : EE} (hl : l.stackTraces = false) {h : HP} (o9440 : ob h 252 = some (.inr (10, [.ref 253, .ref 254, .ref 255, .ref 272, .ref 273]))) (o9441 : ob h 272 = some (.inl (0, 16, .inl (fun _ => 0)))) : en_C l E M_X7_limbAt 0 0 0 [.ref 252, .int (Int32.ofInt 10), .int (Int32.ofInt 0)] h (pR (some (.long (Int64.ofInt 0))) h) := by
  refine en_mk m_X7_limbAt rfl hl (Nat.le_of_ble_eq_true rfl) ?_
  refine x_iload_n (M := M_X7_limbAt) dX7_limbAt_0 rfl ?_
  refine x_aload_n (M := M_X7_limbAt) dX7_limbAt_1 rfl ?_
  refine x_getf (M := M_X7_limbAt) (ci := 10) (C := RX7) (T := TX7) (N := 5) (ty := tyX7) cl10 dX7_limbAt_2 o9440 3 (by decide) t_550 (v := .ref 272) rfl ?_
  refine x_iload_n (M := M_X7_limbAt) dX7_limbAt_5 rfl ?_
  refine x_iald (M := M_X7_limbAt) dX7_limbAt_6 o9441 (vp_inD (by decide +kernel)) ?_
  refine x_top (M := M_X7_limbAt) (y := (Int32.ofInt 0)) (by decide +kernel) ?_
  refine x_icmp_ge (M := M_X7_limbAt) (tgt := 26) dX7_limbAt_7 (by decide) (fun _ => ?_) (fun q => absurd q (by decide +kernel))
  refine x_lconst (M := M_X7_limbAt) dX7_limbAt_26 ?_
  refine x_topl (M := M_X7_limbAt) (y := (Int64.ofInt 0)) (by decide +kernel) ?_
  exact x_lret (M := M_X7_limbAt) dX7_limbAt_27 rfl ⟨rfl, rfl⟩ (Nat.le_of_ble_eq_true rfl) (Nat.le_of_ble_eq_true rfl)
set_option maxRecDepth 10000 in
theorem q9455 {l : Launch} {E : EE} (hl : l.stackTraces = false) {h : HP} (o9435 : ob h 252 = some (.inr (10, [.ref 253, .ref 254, .ref 255, .ref 272, .ref 273]))) (o9436 : ob h 272 = some (.inl (0, 16, .inl (fun _ => 0)))) (o9443 : ob h 255 = some (.inl (5, 16, .inr (.inr (.inr (.inr (fun i => if i < 16 then some (255 + 1 + i) else none))))))) (o9444 : ob h 268 = some (.inl (0, 280, .inl (fun _ => 0)))) : en_C l E M_X7_addLimbs 1 0 0 [.ref 252, .int (Int32.ofInt 12), .int (Int32.ofInt 11), .int (Int32.ofInt 10), .int (Int32.ofInt 1)] h (pF none [268, 272] h (fun h' => ob h' 268 = some (.inl (0, 280, .inl (fun _ => 0))) ∧ ob h' 272 = some (.inl (0, 16, .inl (upd (fun _ => 0) 12 (Int32.ofInt 1)))) ∧ True)) := by
  refine en_mk m_X7_addLimbs rfl hl (Nat.le_of_ble_eq_true rfl) ?_
  refine x_aload_n (M := M_X7_addLimbs) dX7_addLimbs_0 rfl ?_
  refine x_getf (M := M_X7_addLimbs) (ci := 10) (C := RX7) (T := TX7) (N := 5) (ty := tyX7) cl10 dX7_addLimbs_1 o9435 3 (by decide) t_550 (v := .ref 272) rfl ?_
  refine x_iload_n (M := M_X7_addLimbs) dX7_addLimbs_4 rfl ?_
  refine x_iald (M := M_X7_addLimbs) dX7_addLimbs_5 o9436 (vp_inD (by decide +kernel)) ?_
  refine x_top (M := M_X7_addLimbs) (y := (Int32.ofInt 0)) (by decide +kernel) ?_
  refine x_aload_n (M := M_X7_addLimbs) dX7_addLimbs_6 rfl ?_
  refine x_getf (M := M_X7_addLimbs) (ci := 10) (C := RX7) (T := TX7) (N := 5) (ty := tyX7) cl10 dX7_addLimbs_7 o9435 3 (by decide) t_550 (v := .ref 272) rfl ?_
  refine x_iload_n (M := M_X7_addLimbs) dX7_addLimbs_10 rfl ?_
  refine x_iald (M := M_X7_addLimbs) dX7_addLimbs_11 o9436 (vp_inD (by decide +kernel)) ?_
  refine x_top (M := M_X7_addLimbs) (y := (Int32.ofInt 0)) (by decide +kernel) ?_
  refine x_mmax (M := M_X7_addLimbs) dX7_addLimbs_12 t_2336 t_1013 t_20 t_1014 (Nat.le_of_ble_eq_true rfl) (Nat.le_of_ble_eq_true rfl) (Nat.le_of_ble_eq_true rfl) (Nat.le_of_ble_eq_true rfl) ?_
  refine x_top (M := M_X7_addLimbs) (y := (Int32.ofInt 0)) (by decide +kernel) ?_
  refine x_iconst (M := M_X7_addLimbs) dX7_addLimbs_15 ?_
  refine x_iadd (M := M_X7_addLimbs) dX7_addLimbs_16 ?_
  refine x_sipush (M := M_X7_addLimbs) dX7_addLimbs_17 ?_
  refine x_mmin (M := M_X7_addLimbs) dX7_addLimbs_20 t_2351 t_626 t_20 t_627 (Nat.le_of_ble_eq_true rfl) (Nat.le_of_ble_eq_true rfl) (Nat.le_of_ble_eq_true rfl) (Nat.le_of_ble_eq_true rfl) ?_
  refine x_top (M := M_X7_addLimbs) (y := (Int32.ofInt 1)) (by decide +kernel) ?_
  refine x_istore (M := M_X7_addLimbs) dX7_addLimbs_23 (Nat.le_of_ble_eq_true rfl) rfl ?_
  refine x_lconst (M := M_X7_addLimbs) dX7_addLimbs_25 ?_
  refine x_topl (M := M_X7_addLimbs) (y := (Int64.ofInt 0)) (by decide +kernel) ?_
  refine x_lstore (M := M_X7_addLimbs) dX7_addLimbs_26 (Nat.le_of_ble_eq_true rfl) rfl ?_
  refine x_iconst (M := M_X7_addLimbs) dX7_addLimbs_28 ?_
  refine x_istore (M := M_X7_addLimbs) dX7_addLimbs_29 (Nat.le_of_ble_eq_true rfl) rfl ?_
  refine x_iload (M := M_X7_addLimbs) dX7_addLimbs_31 rfl ?_
  refine x_iload (M := M_X7_addLimbs) dX7_addLimbs_33 rfl ?_
  refine x_icmp_ge (M := M_X7_addLimbs) (tgt := 87) dX7_addLimbs_35 (by decide) (fun q => absurd q (by decide +kernel)) (fun _ => ?_)
  refine x_aload_n (M := M_X7_addLimbs) dX7_addLimbs_38 rfl ?_
  refine x_iload_n (M := M_X7_addLimbs) dX7_addLimbs_39 rfl ?_
  refine x_iload (M := M_X7_addLimbs) dX7_addLimbs_40 rfl ?_
  refine x_callVR (M := M_X7_addLimbs) (M' := M_X7_limbAt) rfl rfl dX7_addLimbs_42 m_X7_limbAt t_2352 t_2354 s_153 (q9439 hl o9435 o9436) rfl rfl o9435 rfl (Nat.le_of_ble_eq_true rfl) (Nat.le_of_ble_eq_true rfl) (Nat.le_of_ble_eq_true rfl) (Nat.le_of_ble_eq_true rfl) ?_
  refine x_iload (M := M_X7_addLimbs) dX7_addLimbs_45 rfl ?_
  refine x_i2l (M := M_X7_addLimbs) dX7_addLimbs_47 ?_
  refine x_aload_n (M := M_X7_addLimbs) dX7_addLimbs_48 rfl ?_
  refine x_iload_n (M := M_X7_addLimbs) dX7_addLimbs_49 rfl ?_
  refine x_iload (M := M_X7_addLimbs) dX7_addLimbs_50 rfl ?_
  refine x_callVR (M := M_X7_addLimbs) (M' := M_X7_limbAt) rfl rfl dX7_addLimbs_52 m_X7_limbAt t_2352 t_2354 s_153 (q9442 hl o9435 o9436) rfl rfl o9435 rfl (Nat.le_of_ble_eq_true rfl) (Nat.le_of_ble_eq_true rfl) (Nat.le_of_ble_eq_true rfl) (Nat.le_of_ble_eq_true rfl) ?_
  refine x_lmul (M := M_X7_addLimbs) dX7_addLimbs_55 ?_
  refine x_ladd (M := M_X7_addLimbs) dX7_addLimbs_56 ?_
  refine x_lload (M := M_X7_addLimbs) dX7_addLimbs_57 rfl ?_
  refine x_ladd (M := M_X7_addLimbs) dX7_addLimbs_59 ?_
  refine x_topl (M := M_X7_addLimbs) (y := (Int64.ofInt 0)) (by decide +kernel) ?_
  refine x_lstore (M := M_X7_addLimbs) dX7_addLimbs_60 (Nat.le_of_ble_eq_true rfl) rfl ?_
  refine x_aload_n (M := M_X7_addLimbs) dX7_addLimbs_62 rfl ?_
  refine x_getf (M := M_X7_addLimbs) (ci := 10) (C := RX7) (T := TX7) (N := 5) (ty := tyX7) cl10 dX7_addLimbs_63 o9435 2 (by decide) t_549 (v := .ref 255) rfl ?_
  refine x_iload_n (M := M_X7_addLimbs) dX7_addLimbs_66 rfl ?_
  refine x_gald (M := M_X7_addLimbs) (b := 268) dX7_addLimbs_67 o9443 (vp_inD (by decide +kernel)) (by decide +kernel) ?_
  refine x_iload (M := M_X7_addLimbs) dX7_addLimbs_68 rfl ?_
  refine x_lload (M := M_X7_addLimbs) dX7_addLimbs_70 rfl ?_
  refine x_l2i (M := M_X7_addLimbs) dX7_addLimbs_72 ?_
  refine x_norm (M := M_X7_addLimbs) (st' := [.int (Int32.ofInt 0), .int (Int32.ofInt 0), .ref 268]) rfl (vi_cons (by decide +kernel : ((Int64.ofInt 0).toInt32) = (Int32.ofInt 0)) rfl) rfl rfl rfl ?_
  refine y_iast (M := M_X7_addLimbs) (k := 0) dX7_addLimbs_73 o9444 (vp_inD (by decide +kernel)) (by decide +kernel) (fun h9445 w9446 f9447 => ?_)
  have w9448 : ob h9445 268 = some (.inl (0, 280, .inl (fun _ => 0))) := by rw [w9446, up_z (k := 0)]
  refine x_lload (M := M_X7_addLimbs) dX7_addLimbs_74 rfl ?_
  refine x_bipush (M := M_X7_addLimbs) dX7_addLimbs_76 ?_
  refine x_lshr (M := M_X7_addLimbs) dX7_addLimbs_78 ?_
  refine x_topl (M := M_X7_addLimbs) (y := (Int64.ofInt 0)) (by decide +kernel) ?_
  refine x_lstore (M := M_X7_addLimbs) dX7_addLimbs_79 (Nat.le_of_ble_eq_true rfl) rfl ?_
  refine x_lvs (M := M_X7_addLimbs) (lv' := [some (.ref 252), some (.int (Int32.ofInt 12)), some (.int (Int32.ofInt 11)), some (.int (Int32.ofInt 10)), some (.int (Int32.ofInt 1)), some (.int (Int32.ofInt 1)), some (.long (Int64.ofInt 0)), none, some (.int (Int32.ofInt 0)), some (.long (Int64.ofInt 0)), none]) rfl ?_
  refine x_iinc (M := M_X7_addLimbs) dX7_addLimbs_81 rfl (Nat.le_of_ble_eq_true rfl) rfl ?_
  refine x_lvs (M := M_X7_addLimbs) (lv' := [some (.ref 252), some (.int (Int32.ofInt 12)), some (.int (Int32.ofInt 11)), some (.int (Int32.ofInt 10)), some (.int (Int32.ofInt 1)), some (.int (Int32.ofInt 1)), some (.long (Int64.ofInt 0)), none, some (.int (Int32.ofInt 1)), some (.long (Int64.ofInt 0)), none]) (by rw [(by decide +kernel : (Int32.ofInt 0) + Int32.ofInt 1 = (Int32.ofInt 1))] <;> rfl) ?_
  refine x_goto (M := M_X7_addLimbs) (tgt := 31) dX7_addLimbs_84 (by decide) ?_
  refine x_iload (M := M_X7_addLimbs) dX7_addLimbs_31 rfl ?_
  refine x_iload (M := M_X7_addLimbs) dX7_addLimbs_33 rfl ?_
  refine x_icmp_ge (M := M_X7_addLimbs) (tgt := 87) dX7_addLimbs_35 (by decide) (fun _ => ?_) (fun q => absurd q (by decide +kernel))
  refine x_aload_n (M := M_X7_addLimbs) dX7_addLimbs_87 rfl ?_
  have o9449 := (f9447 252 _ (by decide) o9435)
  refine x_getf (M := M_X7_addLimbs) (ci := 10) (C := RX7) (T := TX7) (N := 5) (ty := tyX7) cl10 dX7_addLimbs_88 o9449 3 (by decide) t_550 (v := .ref 272) rfl ?_
  refine x_iload_n (M := M_X7_addLimbs) dX7_addLimbs_91 rfl ?_
  refine x_iload (M := M_X7_addLimbs) dX7_addLimbs_92 rfl ?_
  have o9450 := (f9447 272 _ (by decide) o9436)
  refine y_iast (M := M_X7_addLimbs) (k := 12) dX7_addLimbs_94 o9450 (vp_inD (by decide +kernel)) (by decide +kernel) (fun h9451 w9452 f9453 => ?_)
  have o9454 := (f9453 268 _ (by decide) w9448)
  exact x_vret (M := M_X7_addLimbs) dX7_addLimbs_95 rfl ⟨rfl, (fr_tr f9453 (by decide) (fr_tr f9447 (by decide) fr_rf)), ⟨o9454, w9452, trivial⟩⟩ (Nat.le_of_ble_eq_true rfl) (Nat.le_of_ble_eq_true rfl)
set_option maxRecDepth 10000 in
theorem q9486 {l : Launch} {E : EE} (hl : l.stackTraces = false) {h : HP} (o9470 : ob h 252 = some (.inr (10, [.ref 253, .ref 254, .ref 255, .ref 272, .ref 273]))) (o9471 : ob h 272 = some (.inl (0, 16, .inl (upd (fun _ => 0) 12 (Int32.ofInt 1))))) (o9472 : ob h 255 = some (.inl (5, 16, .inr (.inr (.inr (.inr (fun i => if i < 16 then some (255 + 1 + i) else none))))))) (o9473 : ob h 268 = some (.inl (0, 280, .inl (fun _ => 0)))) (o9479 : ob h 273 = some (.inl (0, 16, .inl (fun _ => 0)))) : en_C l E M_X7_trim 0 0 0 [.ref 252, .int (Int32.ofInt 12)] h (pF none [272, 273] h (fun h' => ob h' 272 = some (.inl (0, 16, .inl (fun _ => 0))) ∧ ob h' 273 = some (.inl (0, 16, .inl (fun _ => 0))) ∧ True)) := by
  refine en_mk m_X7_trim rfl hl (Nat.le_of_ble_eq_true rfl) ?_
  refine x_aload_n (M := M_X7_trim) dX7_trim_0 rfl ?_
  refine x_getf (M := M_X7_trim) (ci := 10) (C := RX7) (T := TX7) (N := 5) (ty := tyX7) cl10 dX7_trim_1 o9470 3 (by decide) t_550 (v := .ref 272) rfl ?_
  refine x_iload_n (M := M_X7_trim) dX7_trim_4 rfl ?_
  refine x_iald (M := M_X7_trim) dX7_trim_5 o9471 (vp_inD (by decide +kernel)) ?_
  refine x_top (M := M_X7_trim) (y := (Int32.ofInt 1)) (by decide +kernel) ?_
  refine x_if_le (M := M_X7_trim) (tgt := 40) dX7_trim_6 (by decide) (fun q => absurd q (by decide +kernel)) (fun _ => ?_)
  refine x_aload_n (M := M_X7_trim) dX7_trim_9 rfl ?_
  refine x_getf (M := M_X7_trim) (ci := 10) (C := RX7) (T := TX7) (N := 5) (ty := tyX7) cl10 dX7_trim_10 o9470 2 (by decide) t_549 (v := .ref 255) rfl ?_
  refine x_iload_n (M := M_X7_trim) dX7_trim_13 rfl ?_
  refine x_gald (M := M_X7_trim) (b := 268) dX7_trim_14 o9472 (vp_inD (by decide +kernel)) (by decide +kernel) ?_
  refine x_aload_n (M := M_X7_trim) dX7_trim_15 rfl ?_
  refine x_getf (M := M_X7_trim) (ci := 10) (C := RX7) (T := TX7) (N := 5) (ty := tyX7) cl10 dX7_trim_16 o9470 3 (by decide) t_550 (v := .ref 272) rfl ?_
  refine x_iload_n (M := M_X7_trim) dX7_trim_19 rfl ?_
  refine x_iald (M := M_X7_trim) dX7_trim_20 o9471 (vp_inD (by decide +kernel)) ?_
  refine x_top (M := M_X7_trim) (y := (Int32.ofInt 1)) (by decide +kernel) ?_
  refine x_iconst (M := M_X7_trim) dX7_trim_21 ?_
  refine x_isub (M := M_X7_trim) dX7_trim_22 ?_
  refine x_iald (M := M_X7_trim) dX7_trim_23 o9473 (vp_inD (by decide +kernel)) ?_
  refine x_top (M := M_X7_trim) (y := (Int32.ofInt 0)) (by decide +kernel) ?_
  refine x_if_ne (M := M_X7_trim) (tgt := 40) dX7_trim_24 (by decide) (fun q => absurd q (by decide +kernel)) (fun _ => ?_)
  refine x_aload_n (M := M_X7_trim) dX7_trim_27 rfl ?_
  refine x_getf (M := M_X7_trim) (ci := 10) (C := RX7) (T := TX7) (N := 5) (ty := tyX7) cl10 dX7_trim_28 o9470 3 (by decide) t_550 (v := .ref 272) rfl ?_
  refine x_iload_n (M := M_X7_trim) dX7_trim_31 rfl ?_
  refine x_dup2 (M := M_X7_trim) dX7_trim_32 rfl rfl ?_
  refine x_iald (M := M_X7_trim) dX7_trim_33 o9471 (vp_inD (by decide +kernel)) ?_
  refine x_top (M := M_X7_trim) (y := (Int32.ofInt 1)) (by decide +kernel) ?_
  refine x_iconst (M := M_X7_trim) dX7_trim_34 ?_
  refine x_isub (M := M_X7_trim) dX7_trim_35 ?_
  refine x_norm (M := M_X7_trim) (st' := [.int (Int32.ofInt 0), .int (Int32.ofInt 12), .ref 272]) rfl (vi_cons (by decide +kernel : ((Int32.ofInt 1) - (Int32.ofInt 1)) = (Int32.ofInt 0)) rfl) rfl rfl rfl ?_
  refine y_iast (M := M_X7_trim) (k := 12) dX7_trim_36 o9471 (vp_inD (by decide +kernel)) (by decide +kernel) (fun h9474 w9475 f9476 => ?_)
  have w9477 : ob h9474 272 = some (.inl (0, 16, .inl (fun _ => 0))) := by rw [w9475, up_up (k := 12), up_z (k := 12)]
  refine x_goto (M := M_X7_trim) (tgt := 0) dX7_trim_37 (by decide) ?_
  refine x_aload_n (M := M_X7_trim) dX7_trim_0 rfl ?_
  have o9478 := (f9476 252 _ (by decide) o9470)
  refine x_getf (M := M_X7_trim) (ci := 10) (C := RX7) (T := TX7) (N := 5) (ty := tyX7) cl10 dX7_trim_1 o9478 3 (by decide) t_550 (v := .ref 272) rfl ?_
  refine x_iload_n (M := M_X7_trim) dX7_trim_4 rfl ?_
  refine x_iald (M := M_X7_trim) dX7_trim_5 w9477 (vp_inD (by decide +kernel)) ?_
  refine x_top (M := M_X7_trim) (y := (Int32.ofInt 0)) (by decide +kernel) ?_
  refine x_if_le (M := M_X7_trim) (tgt := 40) dX7_trim_6 (by decide) (fun _ => ?_) (fun q => absurd q (by decide +kernel))
  refine x_aload_n (M := M_X7_trim) dX7_trim_40 rfl ?_
  refine x_getf (M := M_X7_trim) (ci := 10) (C := RX7) (T := TX7) (N := 5) (ty := tyX7) cl10 dX7_trim_41 o9478 3 (by decide) t_550 (v := .ref 272) rfl ?_
  refine x_iload_n (M := M_X7_trim) dX7_trim_44 rfl ?_
  refine x_iald (M := M_X7_trim) dX7_trim_45 w9477 (vp_inD (by decide +kernel)) ?_
  refine x_top (M := M_X7_trim) (y := (Int32.ofInt 0)) (by decide +kernel) ?_
  refine x_if_ne (M := M_X7_trim) (tgt := 56) dX7_trim_46 (by decide) (fun q => absurd q (by decide +kernel)) (fun _ => ?_)
  refine x_aload_n (M := M_X7_trim) dX7_trim_49 rfl ?_
  refine x_getf (M := M_X7_trim) (ci := 10) (C := RX7) (T := TX7) (N := 5) (ty := tyX7) cl10 dX7_trim_50 o9478 4 (by decide) t_551 (v := .ref 273) rfl ?_
  refine x_iload_n (M := M_X7_trim) dX7_trim_53 rfl ?_
  refine x_iconst (M := M_X7_trim) dX7_trim_54 ?_
  have o9480 := (f9476 273 _ (by decide) o9479)
  refine y_iast (M := M_X7_trim) (k := 12) dX7_trim_55 o9480 (vp_inD (by decide +kernel)) (by decide +kernel) (fun h9481 w9482 f9483 => ?_)
  have w9484 : ob h9481 273 = some (.inl (0, 16, .inl (fun _ => 0))) := by rw [w9482, up_z (k := 12)]
  have o9485 := (f9483 272 _ (by decide) w9477)
  exact x_vret (M := M_X7_trim) dX7_trim_56 rfl ⟨rfl, (fr_tr f9483 (by decide) (fr_tr f9476 (by decide) fr_rf)), ⟨o9485, w9484, trivial⟩⟩ (Nat.le_of_ble_eq_true rfl) (Nat.le_of_ble_eq_true rfl)
set_option maxRecDepth 10000 in
theorem q9497 {l : Launch} {E : EE} (hl : l.stackTraces = false) {h : HP} (o9433 : ob h 252 = some (.inr (10, [.ref 253, .ref 254, .ref 255, .ref 272, .ref 273]))) (o9434 : ob h 273 = some (.inl (0, 16, .inl (fun _ => 0)))) (o9456 : ob h 272 = some (.inl (0, 16, .inl (fun _ => 0)))) (o9457 : ob h 255 = some (.inl (5, 16, .inr (.inr (.inr (.inr (fun i => if i < 16 then some (255 + 1 + i) else none))))))) (o9458 : ob h 268 = some (.inl (0, 280, .inl (fun _ => 0)))) : en_C l E M_X7_addSigned 2 0 0 [.ref 252, .int (Int32.ofInt 12), .int (Int32.ofInt 11), .int (Int32.ofInt 10), .int (Int32.ofInt 1)] h (pF none [268, 272, 273] h (fun h' => ob h' 268 = some (.inl (0, 280, .inl (fun _ => 0))) ∧ ob h' 272 = some (.inl (0, 16, .inl (fun _ => 0))) ∧ ob h' 273 = some (.inl (0, 16, .inl (fun _ => 0))) ∧ True)) := by
  refine en_mk m_X7_addSigned rfl hl (Nat.le_of_ble_eq_true rfl) ?_
  refine x_aload_n (M := M_X7_addSigned) dX7_addSigned_0 rfl ?_
  refine x_getf (M := M_X7_addSigned) (ci := 10) (C := RX7) (T := TX7) (N := 5) (ty := tyX7) cl10 dX7_addSigned_1 o9433 4 (by decide) t_551 (v := .ref 273) rfl ?_
  refine x_iload_n (M := M_X7_addSigned) dX7_addSigned_4 rfl ?_
  refine x_iald (M := M_X7_addSigned) dX7_addSigned_5 o9434 (vp_inD (by decide +kernel)) ?_
  refine x_top (M := M_X7_addSigned) (y := (Int32.ofInt 0)) (by decide +kernel) ?_
  refine x_iload (M := M_X7_addSigned) dX7_addSigned_6 rfl ?_
  refine x_imul (M := M_X7_addSigned) dX7_addSigned_8 ?_
  refine x_top (M := M_X7_addSigned) (y := (Int32.ofInt 0)) (by decide +kernel) ?_
  refine x_istore (M := M_X7_addSigned) dX7_addSigned_9 (Nat.le_of_ble_eq_true rfl) rfl ?_
  refine x_aload_n (M := M_X7_addSigned) dX7_addSigned_11 rfl ?_
  refine x_getf (M := M_X7_addSigned) (ci := 10) (C := RX7) (T := TX7) (N := 5) (ty := tyX7) cl10 dX7_addSigned_12 o9433 4 (by decide) t_551 (v := .ref 273) rfl ?_
  refine x_iload_n (M := M_X7_addSigned) dX7_addSigned_15 rfl ?_
  refine x_iald (M := M_X7_addSigned) dX7_addSigned_16 o9434 (vp_inD (by decide +kernel)) ?_
  refine x_top (M := M_X7_addSigned) (y := (Int32.ofInt 0)) (by decide +kernel) ?_
  refine x_iload (M := M_X7_addSigned) dX7_addSigned_17 rfl ?_
  refine x_imul (M := M_X7_addSigned) dX7_addSigned_19 ?_
  refine x_if_lt (M := M_X7_addSigned) (tgt := 64) dX7_addSigned_20 (by decide) (fun q => absurd q (by decide +kernel)) (fun _ => ?_)
  refine x_aload_n (M := M_X7_addSigned) dX7_addSigned_23 rfl ?_
  refine x_getf (M := M_X7_addSigned) (ci := 10) (C := RX7) (T := TX7) (N := 5) (ty := tyX7) cl10 dX7_addSigned_24 o9433 4 (by decide) t_551 (v := .ref 273) rfl ?_
  refine x_iload_n (M := M_X7_addSigned) dX7_addSigned_27 rfl ?_
  refine x_iald (M := M_X7_addSigned) dX7_addSigned_28 o9434 (vp_inD (by decide +kernel)) ?_
  refine x_top (M := M_X7_addSigned) (y := (Int32.ofInt 0)) (by decide +kernel) ?_
  refine x_if_eq (M := M_X7_addSigned) (tgt := 41) dX7_addSigned_29 (by decide) (fun _ => ?_) (fun q => absurd q (by decide +kernel))
  refine x_iload (M := M_X7_addSigned) dX7_addSigned_41 rfl ?_
  refine x_istore (M := M_X7_addSigned) dX7_addSigned_43 (Nat.le_of_ble_eq_true rfl) rfl ?_
  refine x_aload_n (M := M_X7_addSigned) dX7_addSigned_45 rfl ?_
  refine x_iload_n (M := M_X7_addSigned) dX7_addSigned_46 rfl ?_
  refine x_iload_n (M := M_X7_addSigned) dX7_addSigned_47 rfl ?_
  refine x_iload_n (M := M_X7_addSigned) dX7_addSigned_48 rfl ?_
  refine x_iconst (M := M_X7_addSigned) dX7_addSigned_49 ?_
  refine y_callVR (M := M_X7_addSigned) (M' := M_X7_addLimbs) rfl rfl dX7_addSigned_50 m_X7_addLimbs t_2347 t_2349 s_152 (q9455 hl o9433 o9456 o9457 o9458) rfl rfl o9433 rfl (Nat.le_of_ble_eq_true rfl) (Nat.le_of_ble_eq_true rfl) (Nat.le_of_ble_eq_true rfl) (Nat.le_of_ble_eq_true rfl) (fun h9459 f9460 w9461 => ?_)
  obtain ⟨o9462, o9463, -⟩ := w9461
  refine x_aload_n (M := M_X7_addSigned) dX7_addSigned_53 rfl ?_
  have o9464 := (f9460 252 _ (by decide) o9433)
  refine x_getf (M := M_X7_addSigned) (ci := 10) (C := RX7) (T := TX7) (N := 5) (ty := tyX7) cl10 dX7_addSigned_54 o9464 4 (by decide) t_551 (v := .ref 273) rfl ?_
  refine x_iload_n (M := M_X7_addSigned) dX7_addSigned_57 rfl ?_
  refine x_iload (M := M_X7_addSigned) dX7_addSigned_58 rfl ?_
  have o9465 := (f9460 273 _ (by decide) o9434)
  refine y_iast (M := M_X7_addSigned) (k := 12) dX7_addSigned_60 o9465 (vp_inD (by decide +kernel)) (by decide +kernel) (fun h9466 w9467 f9468 => ?_)
  have w9469 : ob h9466 273 = some (.inl (0, 16, .inl (fun _ => 0))) := by rw [w9467, up_z (k := 12)]
  refine x_goto (M := M_X7_addSigned) (tgt := 112) dX7_addSigned_61 (by decide) ?_
  refine x_aload_n (M := M_X7_addSigned) dX7_addSigned_112 rfl ?_
  refine x_iload_n (M := M_X7_addSigned) dX7_addSigned_113 rfl ?_
  have o9487 := (f9468 252 _ (by decide) o9464)
  have o9488 := (f9468 272 _ (by decide) o9463)
  have o9489 := (f9468 255 _ (by decide) (f9460 255 _ (by decide) o9457))
  have o9490 := (f9468 268 _ (by decide) o9462)
  refine y_callVR (M := M_X7_addSigned) (M' := M_X7_trim) rfl rfl dX7_addSigned_114 m_X7_trim t_2339 t_2341 s_150 (q9486 hl o9487 o9488 o9489 o9490 w9469) rfl rfl o9487 rfl (Nat.le_of_ble_eq_true rfl) (Nat.le_of_ble_eq_true rfl) (Nat.le_of_ble_eq_true rfl) (Nat.le_of_ble_eq_true rfl) (fun h9491 f9492 w9493 => ?_)
  obtain ⟨o9494, o9495, -⟩ := w9493
  have o9496 := (f9492 268 _ (by decide) o9490)
  exact x_vret (M := M_X7_addSigned) dX7_addSigned_117 rfl ⟨rfl, (fr_tr f9492 (by decide) (fr_tr f9468 (by decide) (fr_tr f9460 (by decide) fr_rf))), ⟨o9496, o9494, o9495, trivial⟩⟩ (Nat.le_of_ble_eq_true rfl) (Nat.le_of_ble_eq_true rfl)
set_option maxRecDepth 10000 in
theorem q9519 {l : Launch} {E : EE} (hl : l.stackTraces = false) {h : HP} {a0 : Int32} {a1 : Int32} {a2 : Int32} {a3 : Int32} (c0 : ¬ (a0.toInt < 0)) (c1 : a0.toInt < 32) (c2 : ¬ (a1.toInt < 0)) (c3 : a1.toInt < 32) (c4 : ¬ (a2.toInt < 0)) (c5 : a2.toInt < 32) (c6 : ¬ (a3.toInt < 0)) (c7 : a3.toInt < 32) (o8327 : ob h 252 = some (.inr (10, [.ref 253, .ref 254, .ref 255, .ref 272, .ref 273]))) (o8328 : ob h 253 = some (.inl (1, 32, .inr (.inl (fun _ => 0))))) (o8329 : ob h 255 = some (.inl (5, 16, .inr (.inr (.inr (.inr (fun i => if i < 16 then some (255 + 1 + i) else none))))))) (o8330 : ob h 256 = some (.inl (0, 280, .inl (fun _ => 0)))) (o8331 : ob h 272 = some (.inl (0, 16, .inl (fun _ => 0)))) (o8332 : ob h 273 = some (.inl (0, 16, .inl (fun _ => 0)))) (o8333 : ob h 257 = some (.inl (0, 280, .inl (fun _ => 0)))) (o8334 : ob h 258 = some (.inl (0, 280, .inl (fun _ => 0)))) (o8344 : ob h 254 = some (.inl (1, 32, .inr (.inl (fun _ => 0))))) (o8347 : ob h 259 = some (.inl (0, 280, .inl (fun _ => 0)))) (o8360 : ob h 260 = some (.inl (0, 280, .inl (fun _ => 0)))) (o8373 : ob h 261 = some (.inl (0, 280, .inl (fun _ => 0)))) (o8479 : ob h 262 = some (.inl (0, 280, .inl (fun _ => 0)))) (o8585 : ob h 263 = some (.inl (0, 280, .inl (fun _ => 0)))) (o8933 : ob h 269 = some (.inl (0, 280, .inl (fun _ => 0)))) (o8935 : ob h 270 = some (.inl (0, 280, .inl (fun _ => 0)))) (o8937 : ob h 271 = some (.inl (0, 280, .inl (fun _ => 0)))) (o8939 : ob h 264 = some (.inl (0, 280, .inl (fun _ => 0)))) (o9144 : ob h 265 = some (.inl (0, 280, .inl (fun _ => 0)))) (o9349 : ob h 266 = some (.inl (0, 280, .inl (fun _ => 0)))) (o9425 : ob h 267 = some (.inl (0, 280, .inl (fun _ => 0)))) (o9500 : ob h 268 = some (.inl (0, 280, .inl (fun _ => 0)))) : en_C l E M_X7_circleSign 4 0 0 [.ref 252, .int a0, .int a1, .int a2, .int a3] h (pF (some (.int (Int32.ofInt 0))) [256, 272, 273, 257, 258, 259, 260, 261, 262, 263, 271, 267, 268] h (fun h' => ob h' 256 = some (.inl (0, 280, .inl (fun _ => 0))) ∧ ob h' 272 = some (.inl (0, 16, .inl (fun _ => 0))) ∧ ob h' 273 = some (.inl (0, 16, .inl (fun _ => 0))) ∧ ob h' 257 = some (.inl (0, 280, .inl (fun _ => 0))) ∧ ob h' 258 = some (.inl (0, 280, .inl (fun _ => 0))) ∧ ob h' 259 = some (.inl (0, 280, .inl (fun _ => 0))) ∧ ob h' 260 = some (.inl (0, 280, .inl (fun _ => 0))) ∧ ob h' 261 = some (.inl (0, 280, .inl (fun _ => 0))) ∧ ob h' 262 = some (.inl (0, 280, .inl (fun _ => 0))) ∧ ob h' 263 = some (.inl (0, 280, .inl (fun _ => 0))) ∧ ob h' 271 = some (.inl (0, 280, .inl (fun _ => 0))) ∧ ob h' 267 = some (.inl (0, 280, .inl (fun _ => 0))) ∧ ob h' 268 = some (.inl (0, 280, .inl (fun _ => 0))) ∧ True)) := by
  refine en_mk m_X7_circleSign rfl hl (Nat.le_of_ble_eq_true rfl) ?_
  refine x_aload_n (M := M_X7_circleSign) dX7_circleSign_0 rfl ?_
  refine x_iconst (M := M_X7_circleSign) dX7_circleSign_1 ?_
  refine x_aload_n (M := M_X7_circleSign) dX7_circleSign_2 rfl ?_
  refine x_getf (M := M_X7_circleSign) (ci := 10) (C := RX7) (T := TX7) (N := 5) (ty := tyX7) cl10 dX7_circleSign_3 o8327 0 (by decide) t_545 (v := .ref 253) rfl ?_
  refine x_iload_n (M := M_X7_circleSign) dX7_circleSign_6 rfl ?_
  refine x_lald (M := M_X7_circleSign) dX7_circleSign_7 o8328 (vp_in_s (by omega) (by omega)) ?_
  refine x_topl (M := M_X7_circleSign) (y := (Int64.ofInt 0)) rfl ?_
  refine x_aload_n (M := M_X7_circleSign) dX7_circleSign_8 rfl ?_
  refine x_getf (M := M_X7_circleSign) (ci := 10) (C := RX7) (T := TX7) (N := 5) (ty := tyX7) cl10 dX7_circleSign_9 o8327 0 (by decide) t_545 (v := .ref 253) rfl ?_
  refine x_iload (M := M_X7_circleSign) dX7_circleSign_12 rfl ?_
  refine x_lald (M := M_X7_circleSign) dX7_circleSign_14 o8328 (vp_in_s (by omega) (by omega)) ?_
  refine x_topl (M := M_X7_circleSign) (y := (Int64.ofInt 0)) rfl ?_
  refine y_callVR (M := M_X7_circleSign) (M' := M_X7_difference) rfl rfl dX7_circleSign_15 m_X7_difference t_2327 t_2329 s_148 (q6876 hl o8327 o8329 o8330 o8331 o8332 o8333 o8334) rfl rfl o8327 rfl (Nat.le_of_ble_eq_true rfl) (Nat.le_of_ble_eq_true rfl) (Nat.le_of_ble_eq_true rfl) (Nat.le_of_ble_eq_true rfl) (fun h8335 f8336 w8337 => ?_)
  obtain ⟨o8338, o8339, o8340, o8341, o8342, -⟩ := w8337
  refine x_aload_n (M := M_X7_circleSign) dX7_circleSign_18 rfl ?_
  refine x_iconst (M := M_X7_circleSign) dX7_circleSign_19 ?_
  refine x_aload_n (M := M_X7_circleSign) dX7_circleSign_20 rfl ?_
  have o8343 := (f8336 252 _ (by decide) o8327)
  refine x_getf (M := M_X7_circleSign) (ci := 10) (C := RX7) (T := TX7) (N := 5) (ty := tyX7) cl10 dX7_circleSign_21 o8343 1 (by decide) t_547 (v := .ref 254) rfl ?_
  refine x_iload_n (M := M_X7_circleSign) dX7_circleSign_24 rfl ?_
  have o8345 := (f8336 254 _ (by decide) o8344)
  refine x_lald (M := M_X7_circleSign) dX7_circleSign_25 o8345 (vp_in_s (by omega) (by omega)) ?_
  refine x_topl (M := M_X7_circleSign) (y := (Int64.ofInt 0)) rfl ?_
  refine x_aload_n (M := M_X7_circleSign) dX7_circleSign_26 rfl ?_
  refine x_getf (M := M_X7_circleSign) (ci := 10) (C := RX7) (T := TX7) (N := 5) (ty := tyX7) cl10 dX7_circleSign_27 o8343 1 (by decide) t_547 (v := .ref 254) rfl ?_
  refine x_iload (M := M_X7_circleSign) dX7_circleSign_30 rfl ?_
  refine x_lald (M := M_X7_circleSign) dX7_circleSign_32 o8345 (vp_in_s (by omega) (by omega)) ?_
  refine x_topl (M := M_X7_circleSign) (y := (Int64.ofInt 0)) rfl ?_
  have o8346 := (f8336 255 _ (by decide) o8329)
  have o8348 := (f8336 259 _ (by decide) o8347)
  refine y_callVR (M := M_X7_circleSign) (M' := M_X7_difference) rfl rfl dX7_circleSign_33 m_X7_difference t_2327 t_2329 s_148 (q6986 hl o8343 o8346 o8338 o8339 o8340 o8341 o8348) rfl rfl o8343 rfl (Nat.le_of_ble_eq_true rfl) (Nat.le_of_ble_eq_true rfl) (Nat.le_of_ble_eq_true rfl) (Nat.le_of_ble_eq_true rfl) (fun h8349 f8350 w8351 => ?_)
  obtain ⟨o8352, o8353, o8354, o8355, o8356, -⟩ := w8351
  refine x_aload_n (M := M_X7_circleSign) dX7_circleSign_36 rfl ?_
  refine x_iconst (M := M_X7_circleSign) dX7_circleSign_37 ?_
  refine x_aload_n (M := M_X7_circleSign) dX7_circleSign_38 rfl ?_
  have o8357 := (f8350 252 _ (by decide) o8343)
  refine x_getf (M := M_X7_circleSign) (ci := 10) (C := RX7) (T := TX7) (N := 5) (ty := tyX7) cl10 dX7_circleSign_39 o8357 0 (by decide) t_545 (v := .ref 253) rfl ?_
  refine x_iload_n (M := M_X7_circleSign) dX7_circleSign_42 rfl ?_
  have o8358 := (f8350 253 _ (by decide) (f8336 253 _ (by decide) o8328))
  refine x_lald (M := M_X7_circleSign) dX7_circleSign_43 o8358 (vp_in_s (by omega) (by omega)) ?_
  refine x_topl (M := M_X7_circleSign) (y := (Int64.ofInt 0)) rfl ?_
  refine x_aload_n (M := M_X7_circleSign) dX7_circleSign_44 rfl ?_
  refine x_getf (M := M_X7_circleSign) (ci := 10) (C := RX7) (T := TX7) (N := 5) (ty := tyX7) cl10 dX7_circleSign_45 o8357 0 (by decide) t_545 (v := .ref 253) rfl ?_
  refine x_iload (M := M_X7_circleSign) dX7_circleSign_48 rfl ?_
  refine x_lald (M := M_X7_circleSign) dX7_circleSign_50 o8358 (vp_in_s (by omega) (by omega)) ?_
  refine x_topl (M := M_X7_circleSign) (y := (Int64.ofInt 0)) rfl ?_
  have o8359 := (f8350 255 _ (by decide) o8346)
  have o8361 := (f8350 260 _ (by decide) (f8336 260 _ (by decide) o8360))
  refine y_callVR (M := M_X7_circleSign) (M' := M_X7_difference) rfl rfl dX7_circleSign_51 m_X7_difference t_2327 t_2329 s_148 (q7092 hl o8357 o8359 o8352 o8353 o8354 o8355 o8361) rfl rfl o8357 rfl (Nat.le_of_ble_eq_true rfl) (Nat.le_of_ble_eq_true rfl) (Nat.le_of_ble_eq_true rfl) (Nat.le_of_ble_eq_true rfl) (fun h8362 f8363 w8364 => ?_)
  obtain ⟨o8365, o8366, o8367, o8368, o8369, -⟩ := w8364
  refine x_aload_n (M := M_X7_circleSign) dX7_circleSign_54 rfl ?_
  refine x_iconst (M := M_X7_circleSign) dX7_circleSign_55 ?_
  refine x_aload_n (M := M_X7_circleSign) dX7_circleSign_56 rfl ?_
  have o8370 := (f8363 252 _ (by decide) o8357)
  refine x_getf (M := M_X7_circleSign) (ci := 10) (C := RX7) (T := TX7) (N := 5) (ty := tyX7) cl10 dX7_circleSign_57 o8370 1 (by decide) t_547 (v := .ref 254) rfl ?_
  refine x_iload_n (M := M_X7_circleSign) dX7_circleSign_60 rfl ?_
  have o8371 := (f8363 254 _ (by decide) (f8350 254 _ (by decide) o8345))
  refine x_lald (M := M_X7_circleSign) dX7_circleSign_61 o8371 (vp_in_s (by omega) (by omega)) ?_
  refine x_topl (M := M_X7_circleSign) (y := (Int64.ofInt 0)) rfl ?_
  refine x_aload_n (M := M_X7_circleSign) dX7_circleSign_62 rfl ?_
  refine x_getf (M := M_X7_circleSign) (ci := 10) (C := RX7) (T := TX7) (N := 5) (ty := tyX7) cl10 dX7_circleSign_63 o8370 1 (by decide) t_547 (v := .ref 254) rfl ?_
  refine x_iload (M := M_X7_circleSign) dX7_circleSign_66 rfl ?_
  refine x_lald (M := M_X7_circleSign) dX7_circleSign_68 o8371 (vp_in_s (by omega) (by omega)) ?_
  refine x_topl (M := M_X7_circleSign) (y := (Int64.ofInt 0)) rfl ?_
  have o8372 := (f8363 255 _ (by decide) o8359)
  have o8374 := (f8363 261 _ (by decide) (f8350 261 _ (by decide) (f8336 261 _ (by decide) o8373)))
  refine y_callVR (M := M_X7_circleSign) (M' := M_X7_difference) rfl rfl dX7_circleSign_69 m_X7_difference t_2327 t_2329 s_148 (q7198 hl o8370 o8372 o8365 o8366 o8367 o8368 o8374) rfl rfl o8370 rfl (Nat.le_of_ble_eq_true rfl) (Nat.le_of_ble_eq_true rfl) (Nat.le_of_ble_eq_true rfl) (Nat.le_of_ble_eq_true rfl) (fun h8375 f8376 w8377 => ?_)
  obtain ⟨o8378, o8379, o8380, o8381, o8382, -⟩ := w8377
  refine x_aload_n (M := M_X7_circleSign) dX7_circleSign_72 rfl ?_
  refine x_bipush (M := M_X7_circleSign) dX7_circleSign_73 ?_
  refine x_aload_n (M := M_X7_circleSign) dX7_circleSign_75 rfl ?_
  have o8383 := (f8376 252 _ (by decide) o8370)
  refine x_getf (M := M_X7_circleSign) (ci := 10) (C := RX7) (T := TX7) (N := 5) (ty := tyX7) cl10 dX7_circleSign_76 o8383 0 (by decide) t_545 (v := .ref 253) rfl ?_
  refine x_iload_n (M := M_X7_circleSign) dX7_circleSign_79 rfl ?_
  have o8384 := (f8376 253 _ (by decide) (f8363 253 _ (by decide) o8358))
  refine x_lald (M := M_X7_circleSign) dX7_circleSign_80 o8384 (vp_in_s (by omega) (by omega)) ?_
  refine x_topl (M := M_X7_circleSign) (y := (Int64.ofInt 0)) rfl ?_
  refine x_aload_n (M := M_X7_circleSign) dX7_circleSign_81 rfl ?_
  refine x_getf (M := M_X7_circleSign) (ci := 10) (C := RX7) (T := TX7) (N := 5) (ty := tyX7) cl10 dX7_circleSign_82 o8383 0 (by decide) t_545 (v := .ref 253) rfl ?_
  refine x_iload (M := M_X7_circleSign) dX7_circleSign_85 rfl ?_
  refine x_lald (M := M_X7_circleSign) dX7_circleSign_87 o8384 (vp_in_s (by omega) (by omega)) ?_
  refine x_topl (M := M_X7_circleSign) (y := (Int64.ofInt 0)) rfl ?_
  refine x_norm (M := M_X7_circleSign) (st' := [.long (Int64.ofInt 0), .long (Int64.ofInt 0), .int (Int32.ofInt 6), .ref 252]) rfl (v_cons (v_cons (vi_cons (by decide +kernel : ((Int8.ofInt 6).toInt32) = (Int32.ofInt 6)) rfl))) rfl rfl rfl ?_
  have o8478 := (f8376 255 _ (by decide) o8372)
  have o8480 := (f8376 262 _ (by decide) (f8363 262 _ (by decide) (f8350 262 _ (by decide) (f8336 262 _ (by decide) o8479))))
  refine y_callVR (M := M_X7_circleSign) (M' := M_X7_difference) rfl rfl dX7_circleSign_88 m_X7_difference t_2327 t_2329 s_148 (q8477 hl o8383 o8478 o8378 o8379 o8380 o8381 o8480) rfl rfl o8383 rfl (Nat.le_of_ble_eq_true rfl) (Nat.le_of_ble_eq_true rfl) (Nat.le_of_ble_eq_true rfl) (Nat.le_of_ble_eq_true rfl) (fun h8481 f8482 w8483 => ?_)
  obtain ⟨o8484, o8485, o8486, o8487, o8488, -⟩ := w8483
  refine x_aload_n (M := M_X7_circleSign) dX7_circleSign_91 rfl ?_
  refine x_bipush (M := M_X7_circleSign) dX7_circleSign_92 ?_
  refine x_aload_n (M := M_X7_circleSign) dX7_circleSign_94 rfl ?_
  have o8489 := (f8482 252 _ (by decide) o8383)
  refine x_getf (M := M_X7_circleSign) (ci := 10) (C := RX7) (T := TX7) (N := 5) (ty := tyX7) cl10 dX7_circleSign_95 o8489 1 (by decide) t_547 (v := .ref 254) rfl ?_
  refine x_iload_n (M := M_X7_circleSign) dX7_circleSign_98 rfl ?_
  have o8490 := (f8482 254 _ (by decide) (f8376 254 _ (by decide) o8371))
  refine x_lald (M := M_X7_circleSign) dX7_circleSign_99 o8490 (vp_in_s (by omega) (by omega)) ?_
  refine x_topl (M := M_X7_circleSign) (y := (Int64.ofInt 0)) rfl ?_
  refine x_aload_n (M := M_X7_circleSign) dX7_circleSign_100 rfl ?_
  refine x_getf (M := M_X7_circleSign) (ci := 10) (C := RX7) (T := TX7) (N := 5) (ty := tyX7) cl10 dX7_circleSign_101 o8489 1 (by decide) t_547 (v := .ref 254) rfl ?_
  refine x_iload (M := M_X7_circleSign) dX7_circleSign_104 rfl ?_
  refine x_lald (M := M_X7_circleSign) dX7_circleSign_106 o8490 (vp_in_s (by omega) (by omega)) ?_
  refine x_topl (M := M_X7_circleSign) (y := (Int64.ofInt 0)) rfl ?_
  refine x_norm (M := M_X7_circleSign) (st' := [.long (Int64.ofInt 0), .long (Int64.ofInt 0), .int (Int32.ofInt 7), .ref 252]) rfl (v_cons (v_cons (vi_cons (by decide +kernel : ((Int8.ofInt 7).toInt32) = (Int32.ofInt 7)) rfl))) rfl rfl rfl ?_
  have o8584 := (f8482 255 _ (by decide) o8478)
  have o8586 := (f8482 263 _ (by decide) (f8376 263 _ (by decide) (f8363 263 _ (by decide) (f8350 263 _ (by decide) (f8336 263 _ (by decide) o8585)))))
  refine y_callVR (M := M_X7_circleSign) (M' := M_X7_difference) rfl rfl dX7_circleSign_107 m_X7_difference t_2327 t_2329 s_148 (q8583 hl o8489 o8584 o8484 o8485 o8486 o8487 o8586) rfl rfl o8489 rfl (Nat.le_of_ble_eq_true rfl) (Nat.le_of_ble_eq_true rfl) (Nat.le_of_ble_eq_true rfl) (Nat.le_of_ble_eq_true rfl) (fun h8587 f8588 w8589 => ?_)
  obtain ⟨o8590, o8591, o8592, o8593, o8594, -⟩ := w8589
  refine x_aload_n (M := M_X7_circleSign) dX7_circleSign_110 rfl ?_
  refine x_bipush (M := M_X7_circleSign) dX7_circleSign_111 ?_
  refine x_iconst (M := M_X7_circleSign) dX7_circleSign_113 ?_
  refine x_iconst (M := M_X7_circleSign) dX7_circleSign_114 ?_
  refine x_bipush (M := M_X7_circleSign) dX7_circleSign_115 ?_
  refine x_norm (M := M_X7_circleSign) (st' := [.int (Int32.ofInt 6), .int (Int32.ofInt 4), .int (Int32.ofInt 2), .int (Int32.ofInt 8), .ref 252]) rfl (vi_cons (by decide +kernel : ((Int8.ofInt 6).toInt32) = (Int32.ofInt 6)) (v_cons (v_cons (vi_cons (by decide +kernel : ((Int8.ofInt 8).toInt32) = (Int32.ofInt 8)) rfl)))) rfl rfl rfl ?_
  have o8931 := (f8588 252 _ (by decide) o8489)
  have o8932 := (f8588 255 _ (by decide) o8584)
  have o8934 := (f8588 269 _ (by decide) (f8482 269 _ (by decide) (f8376 269 _ (by decide) (f8363 269 _ (by decide) (f8350 269 _ (by decide) (f8336 269 _ (by decide) o8933))))))
  have o8936 := (f8588 270 _ (by decide) (f8482 270 _ (by decide) (f8376 270 _ (by decide) (f8363 270 _ (by decide) (f8350 270 _ (by decide) (f8336 270 _ (by decide) o8935))))))
  have o8938 := (f8588 271 _ (by decide) (f8482 271 _ (by decide) (f8376 271 _ (by decide) (f8363 271 _ (by decide) (f8350 271 _ (by decide) (f8336 271 _ (by decide) o8937))))))
  have o8940 := (f8588 264 _ (by decide) (f8482 264 _ (by decide) (f8376 264 _ (by decide) (f8363 264 _ (by decide) (f8350 264 _ (by decide) (f8336 264 _ (by decide) o8939))))))
  refine y_callVR (M := M_X7_circleSign) (M' := M_X7_putTerm) rfl rfl dX7_circleSign_117 m_X7_putTerm t_2375 t_2377 s_156 (q8930 hl o8931 o8591 o8932 o8934 o8592 o8936 o8938 o8590 o8940) rfl rfl o8931 rfl (Nat.le_of_ble_eq_true rfl) (Nat.le_of_ble_eq_true rfl) (Nat.le_of_ble_eq_true rfl) (Nat.le_of_ble_eq_true rfl) (fun h8941 f8942 w8943 => ?_)
  obtain ⟨o8944, o8945, o8946, o8947, -⟩ := w8943
  refine x_aload_n (M := M_X7_circleSign) dX7_circleSign_120 rfl ?_
  refine x_bipush (M := M_X7_circleSign) dX7_circleSign_121 ?_
  refine x_iconst (M := M_X7_circleSign) dX7_circleSign_123 ?_
  refine x_bipush (M := M_X7_circleSign) dX7_circleSign_124 ?_
  refine x_iconst (M := M_X7_circleSign) dX7_circleSign_126 ?_
  refine x_norm (M := M_X7_circleSign) (st' := [.int (Int32.ofInt 2), .int (Int32.ofInt 6), .int (Int32.ofInt 4), .int (Int32.ofInt 9), .ref 252]) rfl (v_cons (vi_cons (by decide +kernel : ((Int8.ofInt 6).toInt32) = (Int32.ofInt 6)) (v_cons (vi_cons (by decide +kernel : ((Int8.ofInt 9).toInt32) = (Int32.ofInt 9)) rfl)))) rfl rfl rfl ?_
  have o9140 := (f8942 252 _ (by decide) o8931)
  have o9141 := (f8942 255 _ (by decide) o8932)
  have o9142 := (f8942 269 _ (by decide) o8934)
  have o9143 := (f8942 270 _ (by decide) o8936)
  have o9145 := (f8942 265 _ (by decide) (f8588 265 _ (by decide) (f8482 265 _ (by decide) (f8376 265 _ (by decide) (f8363 265 _ (by decide) (f8350 265 _ (by decide) (f8336 265 _ (by decide) o9144)))))))
  refine y_callVR (M := M_X7_circleSign) (M' := M_X7_putTerm) rfl rfl dX7_circleSign_127 m_X7_putTerm t_2375 t_2377 s_156 (q9139 hl o9140 o8944 o9141 o9142 o8945 o9143 o8946 o8947 o9145) rfl rfl o9140 rfl (Nat.le_of_ble_eq_true rfl) (Nat.le_of_ble_eq_true rfl) (Nat.le_of_ble_eq_true rfl) (Nat.le_of_ble_eq_true rfl) (fun h9146 f9147 w9148 => ?_)
  obtain ⟨o9149, o9150, o9151, o9152, -⟩ := w9148
  refine x_aload_n (M := M_X7_circleSign) dX7_circleSign_130 rfl ?_
  refine x_bipush (M := M_X7_circleSign) dX7_circleSign_131 ?_
  refine x_bipush (M := M_X7_circleSign) dX7_circleSign_133 ?_
  refine x_iconst (M := M_X7_circleSign) dX7_circleSign_135 ?_
  refine x_iconst (M := M_X7_circleSign) dX7_circleSign_136 ?_
  refine x_norm (M := M_X7_circleSign) (st' := [.int (Int32.ofInt 4), .int (Int32.ofInt 2), .int (Int32.ofInt 6), .int (Int32.ofInt 10), .ref 252]) rfl (v_cons (v_cons (vi_cons (by decide +kernel : ((Int8.ofInt 6).toInt32) = (Int32.ofInt 6)) (vi_cons (by decide +kernel : ((Int8.ofInt 10).toInt32) = (Int32.ofInt 10)) rfl)))) rfl rfl rfl ?_
  have o9345 := (f9147 252 _ (by decide) o9140)
  have o9346 := (f9147 255 _ (by decide) o9141)
  have o9347 := (f9147 269 _ (by decide) o9142)
  have o9348 := (f9147 270 _ (by decide) o9143)
  have o9350 := (f9147 266 _ (by decide) (f8942 266 _ (by decide) (f8588 266 _ (by decide) (f8482 266 _ (by decide) (f8376 266 _ (by decide) (f8363 266 _ (by decide) (f8350 266 _ (by decide) (f8336 266 _ (by decide) o9349))))))))
  refine y_callVR (M := M_X7_circleSign) (M' := M_X7_putTerm) rfl rfl dX7_circleSign_137 m_X7_putTerm t_2375 t_2377 s_156 (q9344 hl o9345 o9149 o9346 o9347 o9150 o9348 o9151 o9152 o9350) rfl rfl o9345 rfl (Nat.le_of_ble_eq_true rfl) (Nat.le_of_ble_eq_true rfl) (Nat.le_of_ble_eq_true rfl) (Nat.le_of_ble_eq_true rfl) (fun h9351 f9352 w9353 => ?_)
  obtain ⟨o9354, o9355, o9356, o9357, -⟩ := w9353
  refine x_aload_n (M := M_X7_circleSign) dX7_circleSign_140 rfl ?_
  refine x_bipush (M := M_X7_circleSign) dX7_circleSign_141 ?_
  refine x_bipush (M := M_X7_circleSign) dX7_circleSign_143 ?_
  refine x_bipush (M := M_X7_circleSign) dX7_circleSign_145 ?_
  refine x_iconst (M := M_X7_circleSign) dX7_circleSign_147 ?_
  refine x_norm (M := M_X7_circleSign) (st' := [.int (Int32.ofInt 1), .int (Int32.ofInt 9), .int (Int32.ofInt 8), .int (Int32.ofInt 11), .ref 252]) rfl (v_cons (vi_cons (by decide +kernel : ((Int8.ofInt 9).toInt32) = (Int32.ofInt 9)) (vi_cons (by decide +kernel : ((Int8.ofInt 8).toInt32) = (Int32.ofInt 8)) (vi_cons (by decide +kernel : ((Int8.ofInt 11).toInt32) = (Int32.ofInt 11)) rfl)))) rfl rfl rfl ?_
  have o9423 := (f9352 252 _ (by decide) o9345)
  have o9424 := (f9352 255 _ (by decide) o9346)
  have o9426 := (f9352 267 _ (by decide) (f9147 267 _ (by decide) (f8942 267 _ (by decide) (f8588 267 _ (by decide) (f8482 267 _ (by decide) (f8376 267 _ (by decide) (f8363 267 _ (by decide) (f8350 267 _ (by decide) (f8336 267 _ (by decide) o9425)))))))))
  refine y_callVR (M := M_X7_circleSign) (M' := M_X7_addSigned) rfl rfl dX7_circleSign_148 m_X7_addSigned t_2343 t_2345 s_151 (q9422 hl o9423 o9355 o9354 o9424 o9426) rfl rfl o9423 rfl (Nat.le_of_ble_eq_true rfl) (Nat.le_of_ble_eq_true rfl) (Nat.le_of_ble_eq_true rfl) (Nat.le_of_ble_eq_true rfl) (fun h9427 f9428 w9429 => ?_)
  obtain ⟨o9430, o9431, o9432, -⟩ := w9429
  refine x_aload_n (M := M_X7_circleSign) dX7_circleSign_151 rfl ?_
  refine x_bipush (M := M_X7_circleSign) dX7_circleSign_152 ?_
  refine x_bipush (M := M_X7_circleSign) dX7_circleSign_154 ?_
  refine x_bipush (M := M_X7_circleSign) dX7_circleSign_156 ?_
  refine x_iconst (M := M_X7_circleSign) dX7_circleSign_158 ?_
  refine x_norm (M := M_X7_circleSign) (st' := [.int (Int32.ofInt 1), .int (Int32.ofInt 10), .int (Int32.ofInt 11), .int (Int32.ofInt 12), .ref 252]) rfl (v_cons (vi_cons (by decide +kernel : ((Int8.ofInt 10).toInt32) = (Int32.ofInt 10)) (vi_cons (by decide +kernel : ((Int8.ofInt 11).toInt32) = (Int32.ofInt 11)) (vi_cons (by decide +kernel : ((Int8.ofInt 12).toInt32) = (Int32.ofInt 12)) rfl)))) rfl rfl rfl ?_
  have o9498 := (f9428 252 _ (by decide) o9423)
  have o9499 := (f9428 255 _ (by decide) o9424)
  have o9501 := (f9428 268 _ (by decide) (f9352 268 _ (by decide) (f9147 268 _ (by decide) (f8942 268 _ (by decide) (f8588 268 _ (by decide) (f8482 268 _ (by decide) (f8376 268 _ (by decide) (f8363 268 _ (by decide) (f8350 268 _ (by decide) (f8336 268 _ (by decide) o9500))))))))))
  refine y_callVR (M := M_X7_circleSign) (M' := M_X7_addSigned) rfl rfl dX7_circleSign_159 m_X7_addSigned t_2343 t_2345 s_151 (q9497 hl o9498 o9432 o9431 o9499 o9501) rfl rfl o9498 rfl (Nat.le_of_ble_eq_true rfl) (Nat.le_of_ble_eq_true rfl) (Nat.le_of_ble_eq_true rfl) (Nat.le_of_ble_eq_true rfl) (fun h9502 f9503 w9504 => ?_)
  obtain ⟨o9505, o9506, o9507, -⟩ := w9504
  refine x_aload_n (M := M_X7_circleSign) dX7_circleSign_162 rfl ?_
  have o9508 := (f9503 252 _ (by decide) o9498)
  refine x_getf (M := M_X7_circleSign) (ci := 10) (C := RX7) (T := TX7) (N := 5) (ty := tyX7) cl10 dX7_circleSign_163 o9508 4 (by decide) t_551 (v := .ref 273) rfl ?_
  refine x_bipush (M := M_X7_circleSign) dX7_circleSign_166 ?_
  refine x_iald (M := M_X7_circleSign) dX7_circleSign_168 o9507 (vp_inD (by decide +kernel)) ?_
  refine x_top (M := M_X7_circleSign) (y := (Int32.ofInt 0)) (by decide +kernel) ?_
  have o9509 := (f9503 256 _ (by decide) (f9428 256 _ (by decide) o9357))
  have o9510 := (f9503 257 _ (by decide) (f9428 257 _ (by decide) (f9352 257 _ (by decide) (f9147 257 _ (by decide) (f8942 257 _ (by decide) o8593)))))
  have o9511 := (f9503 258 _ (by decide) (f9428 258 _ (by decide) (f9352 258 _ (by decide) (f9147 258 _ (by decide) (f8942 258 _ (by decide) (f8588 258 _ (by decide) (f8482 258 _ (by decide) (f8376 258 _ (by decide) (f8363 258 _ (by decide) (f8350 258 _ (by decide) o8342))))))))))
  have o9512 := (f9503 259 _ (by decide) (f9428 259 _ (by decide) (f9352 259 _ (by decide) (f9147 259 _ (by decide) (f8942 259 _ (by decide) (f8588 259 _ (by decide) (f8482 259 _ (by decide) (f8376 259 _ (by decide) (f8363 259 _ (by decide) o8356)))))))))
  have o9513 := (f9503 260 _ (by decide) (f9428 260 _ (by decide) (f9352 260 _ (by decide) (f9147 260 _ (by decide) (f8942 260 _ (by decide) (f8588 260 _ (by decide) (f8482 260 _ (by decide) (f8376 260 _ (by decide) o8369))))))))
  have o9514 := (f9503 261 _ (by decide) (f9428 261 _ (by decide) (f9352 261 _ (by decide) (f9147 261 _ (by decide) (f8942 261 _ (by decide) (f8588 261 _ (by decide) (f8482 261 _ (by decide) o8382)))))))
  have o9515 := (f9503 262 _ (by decide) (f9428 262 _ (by decide) (f9352 262 _ (by decide) (f9147 262 _ (by decide) (f8942 262 _ (by decide) (f8588 262 _ (by decide) o8488))))))
  have o9516 := (f9503 263 _ (by decide) (f9428 263 _ (by decide) (f9352 263 _ (by decide) (f9147 263 _ (by decide) (f8942 263 _ (by decide) o8594)))))
  have o9517 := (f9503 271 _ (by decide) (f9428 271 _ (by decide) o9356))
  have o9518 := (f9503 267 _ (by decide) o9430)
  exact x_iret (M := M_X7_circleSign) dX7_circleSign_169 rfl ⟨rfl, (fr_tr f9503 (by decide) (fr_tr f9428 (by decide) (fr_tr f9352 (by decide) (fr_tr f9147 (by decide) (fr_tr f8942 (by decide) (fr_tr f8588 (by decide) (fr_tr f8482 (by decide) (fr_tr f8376 (by decide) (fr_tr f8363 (by decide) (fr_tr f8350 (by decide) (fr_tr f8336 (by decide) fr_rf))))))))))), ⟨o9509, o9506, o9507, o9510, o9511, o9512, o9513, o9514, o9515, o9516, o9517, o9518, o9505, trivial⟩⟩ (Nat.le_of_ble_eq_true rfl) (Nat.le_of_ble_eq_true rfl)
set_option maxRecDepth 10000 in
theorem q9558 {l : Launch} {E : EE} (hl : l.stackTraces = false) {h : HP} {a0 : Int32} {a1 : Int32} {a2 : Int32} {a3 : Int32} (c0 : ¬ (a0.toInt < 0)) (c1 : a0.toInt < 32) (c2 : ¬ (a1.toInt < 0)) (c3 : a1.toInt < 32) (c4 : ¬ (a2.toInt < 0)) (c5 : a2.toInt < 32) (c6 : ¬ (a3.toInt < 0)) (c7 : a3.toInt < 32) (o8326 : ob h 32 = some (.inr (14, [.ref 33, .ref 162, .ref 166, .int (0 : Int32), .int (0 : Int32), .int (0 : Int32), .ref 167, .ref 170, .ref 173, .ref 177, .ref 193, .ref 208, .ref 222, .ref 238, .ref 252, .ref 274, .ref 275, .ref 276, .int (0 : Int32)]))) (o9520 : ob h 252 = some (.inr (10, [.ref 253, .ref 254, .ref 255, .ref 272, .ref 273]))) (o9521 : ob h 253 = some (.inl (1, 32, .inr (.inl (fun _ => 0))))) (o9522 : ob h 255 = some (.inl (5, 16, .inr (.inr (.inr (.inr (fun i => if i < 16 then some (255 + 1 + i) else none))))))) (o9523 : ob h 256 = some (.inl (0, 280, .inl (fun _ => 0)))) (o9524 : ob h 272 = some (.inl (0, 16, .inl (fun _ => 0)))) (o9525 : ob h 273 = some (.inl (0, 16, .inl (fun _ => 0)))) (o9526 : ob h 257 = some (.inl (0, 280, .inl (fun _ => 0)))) (o9527 : ob h 258 = some (.inl (0, 280, .inl (fun _ => 0)))) (o9528 : ob h 254 = some (.inl (1, 32, .inr (.inl (fun _ => 0))))) (o9529 : ob h 259 = some (.inl (0, 280, .inl (fun _ => 0)))) (o9530 : ob h 260 = some (.inl (0, 280, .inl (fun _ => 0)))) (o9531 : ob h 261 = some (.inl (0, 280, .inl (fun _ => 0)))) (o9532 : ob h 262 = some (.inl (0, 280, .inl (fun _ => 0)))) (o9533 : ob h 263 = some (.inl (0, 280, .inl (fun _ => 0)))) (o9534 : ob h 269 = some (.inl (0, 280, .inl (fun _ => 0)))) (o9535 : ob h 270 = some (.inl (0, 280, .inl (fun _ => 0)))) (o9536 : ob h 271 = some (.inl (0, 280, .inl (fun _ => 0)))) (o9537 : ob h 264 = some (.inl (0, 280, .inl (fun _ => 0)))) (o9538 : ob h 265 = some (.inl (0, 280, .inl (fun _ => 0)))) (o9539 : ob h 266 = some (.inl (0, 280, .inl (fun _ => 0)))) (o9540 : ob h 267 = some (.inl (0, 280, .inl (fun _ => 0)))) (o9541 : ob h 268 = some (.inl (0, 280, .inl (fun _ => 0)))) : en_C l E M_X11_circle 5 0 0 [.ref 32, .int a0, .int a1, .int a2, .int a3] h (pF (some (.int (Int32.ofInt 0))) [256, 272, 273, 257, 258, 259, 260, 261, 262, 263, 271, 267, 268] h (fun h' => ob h' 256 = some (.inl (0, 280, .inl (fun _ => 0))) ∧ ob h' 272 = some (.inl (0, 16, .inl (fun _ => 0))) ∧ ob h' 273 = some (.inl (0, 16, .inl (fun _ => 0))) ∧ ob h' 257 = some (.inl (0, 280, .inl (fun _ => 0))) ∧ ob h' 258 = some (.inl (0, 280, .inl (fun _ => 0))) ∧ ob h' 259 = some (.inl (0, 280, .inl (fun _ => 0))) ∧ ob h' 260 = some (.inl (0, 280, .inl (fun _ => 0))) ∧ ob h' 261 = some (.inl (0, 280, .inl (fun _ => 0))) ∧ ob h' 262 = some (.inl (0, 280, .inl (fun _ => 0))) ∧ ob h' 263 = some (.inl (0, 280, .inl (fun _ => 0))) ∧ ob h' 271 = some (.inl (0, 280, .inl (fun _ => 0))) ∧ ob h' 267 = some (.inl (0, 280, .inl (fun _ => 0))) ∧ ob h' 268 = some (.inl (0, 280, .inl (fun _ => 0))) ∧ True)) := by
  refine en_mk m_X11_circle rfl hl (Nat.le_of_ble_eq_true rfl) ?_
  refine x_iload_n (M := M_X11_circle) dX11_circle_0 rfl ?_
  refine x_callSR (M := M_X11_circle) (M' := M_X11_isNoSignPoint) rfl rfl dX11_circle_1 m_X11_isNoSignPoint t_2309 t_2310 (q4334 hl c0 c1) rfl rfl (Nat.le_of_ble_eq_true rfl) (Nat.le_of_ble_eq_true rfl) (Nat.le_of_ble_eq_true rfl) (Nat.le_of_ble_eq_true rfl) ?_
  refine x_if_ne (M := M_X11_circle) (tgt := 29) dX11_circle_4 (by decide) (fun q => absurd q (by decide +kernel)) (fun _ => ?_)
  refine x_iload_n (M := M_X11_circle) dX11_circle_7 rfl ?_
  refine x_callSR (M := M_X11_circle) (M' := M_X11_isNoSignPoint) rfl rfl dX11_circle_8 m_X11_isNoSignPoint t_2309 t_2310 (q6557 hl c2 c3) rfl rfl (Nat.le_of_ble_eq_true rfl) (Nat.le_of_ble_eq_true rfl) (Nat.le_of_ble_eq_true rfl) (Nat.le_of_ble_eq_true rfl) ?_
  refine x_if_ne (M := M_X11_circle) (tgt := 29) dX11_circle_11 (by decide) (fun q => absurd q (by decide +kernel)) (fun _ => ?_)
  refine x_iload_n (M := M_X11_circle) dX11_circle_14 rfl ?_
  refine x_callSR (M := M_X11_circle) (M' := M_X11_isNoSignPoint) rfl rfl dX11_circle_15 m_X11_isNoSignPoint t_2309 t_2310 (q6587 hl c4 c5) rfl rfl (Nat.le_of_ble_eq_true rfl) (Nat.le_of_ble_eq_true rfl) (Nat.le_of_ble_eq_true rfl) (Nat.le_of_ble_eq_true rfl) ?_
  refine x_if_ne (M := M_X11_circle) (tgt := 29) dX11_circle_18 (by decide) (fun q => absurd q (by decide +kernel)) (fun _ => ?_)
  refine x_iload (M := M_X11_circle) dX11_circle_21 rfl ?_
  refine x_callSR (M := M_X11_circle) (M' := M_X11_isNoSignPoint) rfl rfl dX11_circle_23 m_X11_isNoSignPoint t_2309 t_2310 (q8325 hl c6 c7) rfl rfl (Nat.le_of_ble_eq_true rfl) (Nat.le_of_ble_eq_true rfl) (Nat.le_of_ble_eq_true rfl) (Nat.le_of_ble_eq_true rfl) ?_
  refine x_if_eq (M := M_X11_circle) (tgt := 37) dX11_circle_26 (by decide) (fun _ => ?_) (fun q => absurd q (by decide +kernel))
  refine x_aload_n (M := M_X11_circle) dX11_circle_37 rfl ?_
  refine x_getf (M := M_X11_circle) (ci := 14) (C := RX11) (T := TX11) (N := 19) (ty := tyX11) cl14 dX11_circle_38 o8326 14 (by decide) t_577 (v := .ref 252) rfl ?_
  refine x_iload_n (M := M_X11_circle) dX11_circle_41 rfl ?_
  refine x_iload_n (M := M_X11_circle) dX11_circle_42 rfl ?_
  refine x_iload_n (M := M_X11_circle) dX11_circle_43 rfl ?_
  refine x_iload (M := M_X11_circle) dX11_circle_44 rfl ?_
  refine y_callVR (M := M_X11_circle) (M' := M_X7_circleSign) rfl rfl dX11_circle_46 m_X7_circleSign t_2371 t_2372 t_2373 (q9519 hl c0 c1 c2 c3 c4 c5 c6 c7 o9520 o9521 o9522 o9523 o9524 o9525 o9526 o9527 o9528 o9529 o9530 o9531 o9532 o9533 o9534 o9535 o9536 o9537 o9538 o9539 o9540 o9541) rfl rfl o9520 rfl (Nat.le_of_ble_eq_true rfl) (Nat.le_of_ble_eq_true rfl) (Nat.le_of_ble_eq_true rfl) (Nat.le_of_ble_eq_true rfl) (fun h9542 f9543 w9544 => ?_)
  obtain ⟨o9545, o9546, o9547, o9548, o9549, o9550, o9551, o9552, o9553, o9554, o9555, o9556, o9557, -⟩ := w9544
  exact x_iret (M := M_X11_circle) dX11_circle_49 rfl ⟨rfl, (fr_tr f9543 (by decide) fr_rf), ⟨o9545, o9546, o9547, o9548, o9549, o9550, o9551, o9552, o9553, o9554, o9555, o9556, o9557, trivial⟩⟩ (Nat.le_of_ble_eq_true rfl) (Nat.le_of_ble_eq_true rfl)
set_option maxRecDepth 10000 in
theorem q9604 {l : Launch} {E : EE} (hl : l.stackTraces = false) {h : HP} {a0 : Int32} {a1 : Int32} {a2 : Int32} {a3 : Int32} (c0 : ¬ (a0.toInt < 0)) (c1 : a0.toInt < 32) (c2 : ¬ (a1.toInt < 0)) (c3 : a1.toInt < 32) (c4 : ¬ (a2.toInt < 0)) (c5 : a2.toInt < 32) (c6 : ¬ (a3.toInt < 0)) (c7 : a3.toInt < 32) (o9559 : ob h 32 = some (.inr (14, [.ref 33, .ref 162, .ref 166, .int (0 : Int32), .int (0 : Int32), .int (0 : Int32), .ref 167, .ref 170, .ref 173, .ref 177, .ref 193, .ref 208, .ref 222, .ref 238, .ref 252, .ref 274, .ref 275, .ref 276, .int (0 : Int32)]))) (o9560 : ob h 252 = some (.inr (10, [.ref 253, .ref 254, .ref 255, .ref 272, .ref 273]))) (o9561 : ob h 253 = some (.inl (1, 32, .inr (.inl (fun _ => 0))))) (o9562 : ob h 255 = some (.inl (5, 16, .inr (.inr (.inr (.inr (fun i => if i < 16 then some (255 + 1 + i) else none))))))) (o9563 : ob h 256 = some (.inl (0, 280, .inl (fun _ => 0)))) (o9564 : ob h 272 = some (.inl (0, 16, .inl (fun _ => 0)))) (o9565 : ob h 273 = some (.inl (0, 16, .inl (fun _ => 0)))) (o9566 : ob h 257 = some (.inl (0, 280, .inl (fun _ => 0)))) (o9567 : ob h 258 = some (.inl (0, 280, .inl (fun _ => 0)))) (o9568 : ob h 254 = some (.inl (1, 32, .inr (.inl (fun _ => 0))))) (o9569 : ob h 259 = some (.inl (0, 280, .inl (fun _ => 0)))) (o9570 : ob h 260 = some (.inl (0, 280, .inl (fun _ => 0)))) (o9571 : ob h 261 = some (.inl (0, 280, .inl (fun _ => 0)))) (o9572 : ob h 262 = some (.inl (0, 280, .inl (fun _ => 0)))) (o9573 : ob h 263 = some (.inl (0, 280, .inl (fun _ => 0)))) (o9574 : ob h 269 = some (.inl (0, 280, .inl (fun _ => 0)))) (o9575 : ob h 270 = some (.inl (0, 280, .inl (fun _ => 0)))) (o9576 : ob h 271 = some (.inl (0, 280, .inl (fun _ => 0)))) (o9577 : ob h 264 = some (.inl (0, 280, .inl (fun _ => 0)))) (o9578 : ob h 265 = some (.inl (0, 280, .inl (fun _ => 0)))) (o9579 : ob h 266 = some (.inl (0, 280, .inl (fun _ => 0)))) (o9580 : ob h 267 = some (.inl (0, 280, .inl (fun _ => 0)))) (o9581 : ob h 268 = some (.inl (0, 280, .inl (fun _ => 0)))) (o9598 : ob h 359 = some (.inl (1, 1, .inr (.inl (fun _ => 0))))) : en_C l E M_L_circle 6 0 0 [.ref 32, .int a0, .int a1, .int a2, .int a3, .ref 359] h (pF (some (.int (Int32.ofInt 0))) [256, 272, 273, 257, 258, 259, 260, 261, 262, 263, 271, 267, 268, 359] h (fun h' => ob h' 359 = some (.inl (1, 1, .inr (.inl (fun _ => 0)))) ∧ True)) := by
  refine en_mkW m_L_circle rfl hl (Nat.le_of_ble_eq_true rfl) ?_
  refine x_aload (M := M_L_circle) dL_circle_0 rfl ?_
  refine x_iconst (M := M_L_circle) dL_circle_2 ?_
  refine x_aload_n (M := M_L_circle) dL_circle_3 rfl ?_
  refine x_iload_n (M := M_L_circle) dL_circle_4 rfl ?_
  refine x_iload_n (M := M_L_circle) dL_circle_5 rfl ?_
  refine x_iload_n (M := M_L_circle) dL_circle_6 rfl ?_
  refine x_iload (M := M_L_circle) dL_circle_7 rfl ?_
  refine y_callVHR (M := M_L_circle) (M' := M_X11_circle) rfl dL_circle_9 m_X11_circle t_2367 t_2368 t_2369 o9559 rfl (q9558 hl c0 c1 c2 c3 c4 c5 c6 c7 o9559 o9560 o9561 o9562 o9563 o9564 o9565 o9566 o9567 o9568 o9569 o9570 o9571 o9572 o9573 o9574 o9575 o9576 o9577 o9578 o9579 o9580 o9581) rfl rfl (Nat.le_of_ble_eq_true rfl) (Nat.le_of_ble_eq_true rfl) (Nat.le_of_ble_eq_true rfl) (Nat.le_of_ble_eq_true rfl) (fun h9582 f9583 w9584 => ?_)
  obtain ⟨o9585, o9586, o9587, o9588, o9589, o9590, o9591, o9592, o9593, o9594, o9595, o9596, o9597, -⟩ := w9584
  refine x_i2l (M := M_L_circle) dL_circle_12 ?_
  refine x_norm (M := M_L_circle) (st' := [.long (Int64.ofInt 0), .int (Int32.ofInt 0), .ref 359]) rfl (vj_cons (by decide +kernel : ((Int32.ofInt 0).toInt64) = (Int64.ofInt 0)) rfl) rfl rfl rfl ?_
  have o9599 := (f9583 359 _ (by decide) o9598)
  refine y_last (M := M_L_circle) (k := 0) dL_circle_13 o9599 (vp_inD (by decide +kernel)) (by decide +kernel) (fun h9600 w9601 f9602 => ?_)
  have w9603 : ob h9600 359 = some (.inl (1, 1, .inr (.inl (fun _ => 0)))) := by rw [w9601, uq_z (k := 0)]
  refine x_goto (M := M_L_circle) (tgt := 21) dL_circle_14 (by decide) ?_
  refine x_iconst (M := M_L_circle) dL_circle_21 ?_
  exact x_iret (M := M_L_circle) dL_circle_22 rfl ⟨rfl, (fr_tr f9602 (by decide) (fr_tr f9583 (by decide) fr_rf)), ⟨w9603, trivial⟩⟩ (Nat.le_of_ble_eq_true rfl) (Nat.le_of_ble_eq_true rfl)
set_option maxRecDepth 10000 in
theorem q9637 {l : Launch} {E : EE} (hl : l.stackTraces = false) {h : HP} {a3 : Int32} (c0 : ¬ (a3.toInt < 0)) (c1 : a3.toInt < 32) : en_C l E M_X12_isPoint 0 0 0 [.int a3] h (pR (some (.int (Int32.ofInt 1))) h) := by
  refine en_mk m_X12_isPoint rfl hl (Nat.le_of_ble_eq_true rfl) ?_
  refine x_iload_n (M := M_X12_isPoint) dX12_isPoint_0 rfl ?_
  refine x_if_lt (M := M_X12_isPoint) (tgt := 14) dX12_isPoint_1 (by decide) (fun q => absurd ((bi_lt rfl (by decide +kernel)).mp q) (by omega : ¬ (a3.toInt < 0))) (fun _ => ?_)
  refine x_iload_n (M := M_X12_isPoint) dX12_isPoint_4 rfl ?_
  refine x_bipush (M := M_X12_isPoint) dX12_isPoint_5 ?_
  refine x_icmp_ge (M := M_X12_isPoint) (tgt := 14) dX12_isPoint_7 (by decide) (fun q => absurd ((bi_le (by decide +kernel) rfl).mp q) (by omega : ¬ (32 ≤ a3.toInt))) (fun _ => ?_)
  refine x_iconst (M := M_X12_isPoint) dX12_isPoint_10 ?_
  refine x_goto (M := M_X12_isPoint) (tgt := 15) dX12_isPoint_11 (by decide) ?_
  exact x_zret (M := M_X12_isPoint) dX12_isPoint_15 rfl (by decide) ⟨rfl, rfl⟩ (Nat.le_of_ble_eq_true rfl) (Nat.le_of_ble_eq_true rfl)
set_option maxRecDepth 10000 in
theorem q9668 {l : Launch} {E : EE} (hl : l.stackTraces = false) {h : HP} {a0 : Int32} {a3 : Int32} {dg : Int32} (c0 : ¬ (a0.toInt < 0)) (c1 : a0.toInt < 32) (c2 : ¬ (a3.toInt < 0)) (c3 : a3.toInt < 32) (o9642 : ob h 277 = some (.inr (15, ((RB dg).set 0 (.int (Int32.ofInt 0)))))) (o9643 : ob h 297 = some (.inl (1, 32, .inr (.inl (fun _ => 0))))) (o9644 : ob h 294 = some (.inl (1, 6000, .inr (.inl (fun _ => 0))))) (o9645 : ob h 295 = some (.inl (0, 20, .inl (fun _ => 0)))) (o9646 : ob h 296 = some (.inl (0, 20, .inl (fun _ => 0)))) : en_C l E M_X12_between 3 0 0 [.ref 277, .int (Int32.ofInt 0), .int (Int32.ofInt 1), .int a0, .int a3] h (pF none [294, 295, 296] h (fun h' => ob h' 294 = some (.inl (1, 6000, .inr (.inl (fun _ => 0)))) ∧ ob h' 295 = some (.inl (0, 20, .inl (fun _ => 0))) ∧ ob h' 296 = some (.inl (0, 20, .inl (fun _ => 0))) ∧ True)) := by
  refine en_mk m_X12_between rfl hl (Nat.le_of_ble_eq_true rfl) ?_
  refine x_aload_n (M := M_X12_between) dX12_between_0 rfl ?_
  refine x_bipush (M := M_X12_between) dX12_between_1 ?_
  refine x_iload_n (M := M_X12_between) dX12_between_3 rfl ?_
  refine x_if_eq (M := M_X12_between) (tgt := 16) dX12_between_4 (by decide) (fun q => absurd q (by decide +kernel)) (fun _ => ?_)
  refine x_aload_n (M := M_X12_between) dX12_between_7 rfl ?_
  refine x_getf (M := M_X12_between) (ci := 15) (C := RX12) (T := TX12) (N := 135) (ty := tyX12) cl15 dX12_between_8 o9642 39 (by decide) t_2430 (v := .ref 297) rfl ?_
  refine x_iload_n (M := M_X12_between) dX12_between_11 rfl ?_
  refine x_lald (M := M_X12_between) dX12_between_12 o9643 (vp_in_s (by omega) (by omega)) ?_
  refine x_topl (M := M_X12_between) (y := (Int64.ofInt 0)) rfl ?_
  refine x_goto (M := M_X12_between) (tgt := 22) dX12_between_13 (by decide) ?_
  refine x_norm (M := M_X12_between) (st' := [.long (Int64.ofInt 0), .int (Int32.ofInt 18), .ref 277]) rfl (v_cons (vi_cons (by decide +kernel : ((Int8.ofInt 18).toInt32) = (Int32.ofInt 18)) rfl)) rfl rfl rfl ?_
  refine y_callVR (M := M_X12_between) (M' := M_X12_load) rfl rfl dX12_between_22 m_X12_load t_3165 t_3167 s_212 (q7538 hl o9642 o9644 o9645 o9646) rfl rfl o9642 rfl (Nat.le_of_ble_eq_true rfl) (Nat.le_of_ble_eq_true rfl) (Nat.le_of_ble_eq_true rfl) (Nat.le_of_ble_eq_true rfl) (fun h9647 f9648 w9649 => ?_)
  obtain ⟨o9650, o9651, o9652, -⟩ := w9649
  refine x_aload_n (M := M_X12_between) dX12_between_25 rfl ?_
  refine x_bipush (M := M_X12_between) dX12_between_26 ?_
  refine x_iload_n (M := M_X12_between) dX12_between_28 rfl ?_
  refine x_if_eq (M := M_X12_between) (tgt := 42) dX12_between_29 (by decide) (fun q => absurd q (by decide +kernel)) (fun _ => ?_)
  refine x_aload_n (M := M_X12_between) dX12_between_32 rfl ?_
  have o9653 := (f9648 277 _ (by decide) o9642)
  refine x_getf (M := M_X12_between) (ci := 15) (C := RX12) (T := TX12) (N := 135) (ty := tyX12) cl15 dX12_between_33 o9653 39 (by decide) t_2430 (v := .ref 297) rfl ?_
  refine x_iload (M := M_X12_between) dX12_between_36 rfl ?_
  have o9654 := (f9648 297 _ (by decide) o9643)
  refine x_lald (M := M_X12_between) dX12_between_38 o9654 (vp_in_s (by omega) (by omega)) ?_
  refine x_topl (M := M_X12_between) (y := (Int64.ofInt 0)) rfl ?_
  refine x_goto (M := M_X12_between) (tgt := 49) dX12_between_39 (by decide) ?_
  refine x_norm (M := M_X12_between) (st' := [.long (Int64.ofInt 0), .int (Int32.ofInt 19), .ref 277]) rfl (v_cons (vi_cons (by decide +kernel : ((Int8.ofInt 19).toInt32) = (Int32.ofInt 19)) rfl)) rfl rfl rfl ?_
  refine y_callVR (M := M_X12_between) (M' := M_X12_load) rfl rfl dX12_between_49 m_X12_load t_3165 t_3167 s_212 (q7615 hl o9653 o9650 o9651 o9652) rfl rfl o9653 rfl (Nat.le_of_ble_eq_true rfl) (Nat.le_of_ble_eq_true rfl) (Nat.le_of_ble_eq_true rfl) (Nat.le_of_ble_eq_true rfl) (fun h9655 f9656 w9657 => ?_)
  obtain ⟨o9658, o9659, o9660, -⟩ := w9657
  refine x_aload_n (M := M_X12_between) dX12_between_52 rfl ?_
  refine x_iload_n (M := M_X12_between) dX12_between_53 rfl ?_
  refine x_bipush (M := M_X12_between) dX12_between_54 ?_
  refine x_bipush (M := M_X12_between) dX12_between_56 ?_
  refine x_iconst (M := M_X12_between) dX12_between_58 ?_
  refine x_norm (M := M_X12_between) (st' := [.int (Int32.ofInt 1), .int (Int32.ofInt 19), .int (Int32.ofInt 18), .int (Int32.ofInt 0), .ref 277]) rfl (v_cons (vi_cons (by decide +kernel : ((Int8.ofInt 19).toInt32) = (Int32.ofInt 19)) (vi_cons (by decide +kernel : ((Int8.ofInt 18).toInt32) = (Int32.ofInt 18)) rfl))) rfl rfl rfl ?_
  have o9661 := (f9656 277 _ (by decide) o9653)
  refine y_callVR (M := M_X12_between) (M' := M_X12_add) rfl rfl dX12_between_59 m_X12_add t_3174 t_3176 s_214 (q7682 hl o9661 o9660 o9659 o9658) rfl rfl o9661 rfl (Nat.le_of_ble_eq_true rfl) (Nat.le_of_ble_eq_true rfl) (Nat.le_of_ble_eq_true rfl) (Nat.le_of_ble_eq_true rfl) (fun h9662 f9663 w9664 => ?_)
  obtain ⟨o9665, o9666, o9667, -⟩ := w9664
  exact x_vret (M := M_X12_between) dX12_between_62 rfl ⟨rfl, (fr_tr f9663 (by decide) (fr_tr f9656 (by decide) (fr_tr f9648 (by decide) fr_rf))), ⟨o9665, o9666, o9667, trivial⟩⟩ (Nat.le_of_ble_eq_true rfl) (Nat.le_of_ble_eq_true rfl)
set_option maxRecDepth 10000 in
theorem q9709 {l : Launch} {E : EE} (hl : l.stackTraces = false) {h : HP} {a0 : Int32} {a3 : Int32} {dg : Int32} (c0 : ¬ (a0.toInt < 0)) (c1 : a0.toInt < 32) (c2 : ¬ (a3.toInt < 0)) (c3 : a3.toInt < 32) (o9683 : ob h 277 = some (.inr (15, ((RB dg).set 0 (.int (Int32.ofInt 0)))))) (o9684 : ob h 298 = some (.inl (1, 32, .inr (.inl (fun _ => 0))))) (o9685 : ob h 294 = some (.inl (1, 6000, .inr (.inl (fun _ => 0))))) (o9686 : ob h 295 = some (.inl (0, 20, .inl (fun _ => 0)))) (o9687 : ob h 296 = some (.inl (0, 20, .inl (fun _ => 0)))) : en_C l E M_X12_between 3 0 0 [.ref 277, .int (Int32.ofInt 1), .int (Int32.ofInt 0), .int a0, .int a3] h (pF none [294, 295, 296] h (fun h' => ob h' 294 = some (.inl (1, 6000, .inr (.inl (fun _ => 0)))) ∧ ob h' 295 = some (.inl (0, 20, .inl (fun _ => 0))) ∧ ob h' 296 = some (.inl (0, 20, .inl (fun _ => 0))) ∧ True)) := by
  refine en_mk m_X12_between rfl hl (Nat.le_of_ble_eq_true rfl) ?_
  refine x_aload_n (M := M_X12_between) dX12_between_0 rfl ?_
  refine x_bipush (M := M_X12_between) dX12_between_1 ?_
  refine x_iload_n (M := M_X12_between) dX12_between_3 rfl ?_
  refine x_if_eq (M := M_X12_between) (tgt := 16) dX12_between_4 (by decide) (fun _ => ?_) (fun q => absurd q (by decide +kernel))
  refine x_aload_n (M := M_X12_between) dX12_between_16 rfl ?_
  refine x_getf (M := M_X12_between) (ci := 15) (C := RX12) (T := TX12) (N := 135) (ty := tyX12) cl15 dX12_between_17 o9683 40 (by decide) t_2431 (v := .ref 298) rfl ?_
  refine x_iload_n (M := M_X12_between) dX12_between_20 rfl ?_
  refine x_lald (M := M_X12_between) dX12_between_21 o9684 (vp_in_s (by omega) (by omega)) ?_
  refine x_topl (M := M_X12_between) (y := (Int64.ofInt 0)) rfl ?_
  refine x_norm (M := M_X12_between) (st' := [.long (Int64.ofInt 0), .int (Int32.ofInt 18), .ref 277]) rfl (v_cons (vi_cons (by decide +kernel : ((Int8.ofInt 18).toInt32) = (Int32.ofInt 18)) rfl)) rfl rfl rfl ?_
  refine y_callVR (M := M_X12_between) (M' := M_X12_load) rfl rfl dX12_between_22 m_X12_load t_3165 t_3167 s_212 (q7538 hl o9683 o9685 o9686 o9687) rfl rfl o9683 rfl (Nat.le_of_ble_eq_true rfl) (Nat.le_of_ble_eq_true rfl) (Nat.le_of_ble_eq_true rfl) (Nat.le_of_ble_eq_true rfl) (fun h9688 f9689 w9690 => ?_)
  obtain ⟨o9691, o9692, o9693, -⟩ := w9690
  refine x_aload_n (M := M_X12_between) dX12_between_25 rfl ?_
  refine x_bipush (M := M_X12_between) dX12_between_26 ?_
  refine x_iload_n (M := M_X12_between) dX12_between_28 rfl ?_
  refine x_if_eq (M := M_X12_between) (tgt := 42) dX12_between_29 (by decide) (fun _ => ?_) (fun q => absurd q (by decide +kernel))
  refine x_aload_n (M := M_X12_between) dX12_between_42 rfl ?_
  have o9694 := (f9689 277 _ (by decide) o9683)
  refine x_getf (M := M_X12_between) (ci := 15) (C := RX12) (T := TX12) (N := 135) (ty := tyX12) cl15 dX12_between_43 o9694 40 (by decide) t_2431 (v := .ref 298) rfl ?_
  refine x_iload (M := M_X12_between) dX12_between_46 rfl ?_
  have o9695 := (f9689 298 _ (by decide) o9684)
  refine x_lald (M := M_X12_between) dX12_between_48 o9695 (vp_in_s (by omega) (by omega)) ?_
  refine x_topl (M := M_X12_between) (y := (Int64.ofInt 0)) rfl ?_
  refine x_norm (M := M_X12_between) (st' := [.long (Int64.ofInt 0), .int (Int32.ofInt 19), .ref 277]) rfl (v_cons (vi_cons (by decide +kernel : ((Int8.ofInt 19).toInt32) = (Int32.ofInt 19)) rfl)) rfl rfl rfl ?_
  refine y_callVR (M := M_X12_between) (M' := M_X12_load) rfl rfl dX12_between_49 m_X12_load t_3165 t_3167 s_212 (q7615 hl o9694 o9691 o9692 o9693) rfl rfl o9694 rfl (Nat.le_of_ble_eq_true rfl) (Nat.le_of_ble_eq_true rfl) (Nat.le_of_ble_eq_true rfl) (Nat.le_of_ble_eq_true rfl) (fun h9696 f9697 w9698 => ?_)
  obtain ⟨o9699, o9700, o9701, -⟩ := w9698
  refine x_aload_n (M := M_X12_between) dX12_between_52 rfl ?_
  refine x_iload_n (M := M_X12_between) dX12_between_53 rfl ?_
  refine x_bipush (M := M_X12_between) dX12_between_54 ?_
  refine x_bipush (M := M_X12_between) dX12_between_56 ?_
  refine x_iconst (M := M_X12_between) dX12_between_58 ?_
  refine x_norm (M := M_X12_between) (st' := [.int (Int32.ofInt 1), .int (Int32.ofInt 19), .int (Int32.ofInt 18), .int (Int32.ofInt 1), .ref 277]) rfl (v_cons (vi_cons (by decide +kernel : ((Int8.ofInt 19).toInt32) = (Int32.ofInt 19)) (vi_cons (by decide +kernel : ((Int8.ofInt 18).toInt32) = (Int32.ofInt 18)) rfl))) rfl rfl rfl ?_
  have o9702 := (f9697 277 _ (by decide) o9694)
  refine y_callVR (M := M_X12_between) (M' := M_X12_add) rfl rfl dX12_between_59 m_X12_add t_3174 t_3176 s_214 (q7778 hl o9702 o9701 o9700 o9699) rfl rfl o9702 rfl (Nat.le_of_ble_eq_true rfl) (Nat.le_of_ble_eq_true rfl) (Nat.le_of_ble_eq_true rfl) (Nat.le_of_ble_eq_true rfl) (fun h9703 f9704 w9705 => ?_)
  obtain ⟨o9706, o9707, o9708, -⟩ := w9705
  exact x_vret (M := M_X12_between) dX12_between_62 rfl ⟨rfl, (fr_tr f9704 (by decide) (fr_tr f9697 (by decide) (fr_tr f9689 (by decide) fr_rf))), ⟨o9706, o9707, o9708, trivial⟩⟩ (Nat.le_of_ble_eq_true rfl) (Nat.le_of_ble_eq_true rfl)
set_option maxRecDepth 10000 in
theorem q9745 {l : Launch} {E : EE} (hl : l.stackTraces = false) {h : HP} {a1 : Int32} {a3 : Int32} {dg : Int32} (c0 : ¬ (a1.toInt < 0)) (c1 : a1.toInt < 32) (c2 : ¬ (a3.toInt < 0)) (c3 : a3.toInt < 32) (o9719 : ob h 277 = some (.inr (15, ((RB dg).set 0 (.int (Int32.ofInt 0)))))) (o9720 : ob h 297 = some (.inl (1, 32, .inr (.inl (fun _ => 0))))) (o9721 : ob h 294 = some (.inl (1, 6000, .inr (.inl (fun _ => 0))))) (o9722 : ob h 295 = some (.inl (0, 20, .inl (fun _ => 0)))) (o9723 : ob h 296 = some (.inl (0, 20, .inl (fun _ => 0)))) : en_C l E M_X12_between 3 0 0 [.ref 277, .int (Int32.ofInt 3), .int (Int32.ofInt 1), .int a1, .int a3] h (pF none [294, 295, 296] h (fun h' => ob h' 294 = some (.inl (1, 6000, .inr (.inl (fun _ => 0)))) ∧ ob h' 295 = some (.inl (0, 20, .inl (fun _ => 0))) ∧ ob h' 296 = some (.inl (0, 20, .inl (fun _ => 0))) ∧ True)) := by
  refine en_mk m_X12_between rfl hl (Nat.le_of_ble_eq_true rfl) ?_
  refine x_aload_n (M := M_X12_between) dX12_between_0 rfl ?_
  refine x_bipush (M := M_X12_between) dX12_between_1 ?_
  refine x_iload_n (M := M_X12_between) dX12_between_3 rfl ?_
  refine x_if_eq (M := M_X12_between) (tgt := 16) dX12_between_4 (by decide) (fun q => absurd q (by decide +kernel)) (fun _ => ?_)
  refine x_aload_n (M := M_X12_between) dX12_between_7 rfl ?_
  refine x_getf (M := M_X12_between) (ci := 15) (C := RX12) (T := TX12) (N := 135) (ty := tyX12) cl15 dX12_between_8 o9719 39 (by decide) t_2430 (v := .ref 297) rfl ?_
  refine x_iload_n (M := M_X12_between) dX12_between_11 rfl ?_
  refine x_lald (M := M_X12_between) dX12_between_12 o9720 (vp_in_s (by omega) (by omega)) ?_
  refine x_topl (M := M_X12_between) (y := (Int64.ofInt 0)) rfl ?_
  refine x_goto (M := M_X12_between) (tgt := 22) dX12_between_13 (by decide) ?_
  refine x_norm (M := M_X12_between) (st' := [.long (Int64.ofInt 0), .int (Int32.ofInt 18), .ref 277]) rfl (v_cons (vi_cons (by decide +kernel : ((Int8.ofInt 18).toInt32) = (Int32.ofInt 18)) rfl)) rfl rfl rfl ?_
  refine y_callVR (M := M_X12_between) (M' := M_X12_load) rfl rfl dX12_between_22 m_X12_load t_3165 t_3167 s_212 (q7538 hl o9719 o9721 o9722 o9723) rfl rfl o9719 rfl (Nat.le_of_ble_eq_true rfl) (Nat.le_of_ble_eq_true rfl) (Nat.le_of_ble_eq_true rfl) (Nat.le_of_ble_eq_true rfl) (fun h9724 f9725 w9726 => ?_)
  obtain ⟨o9727, o9728, o9729, -⟩ := w9726
  refine x_aload_n (M := M_X12_between) dX12_between_25 rfl ?_
  refine x_bipush (M := M_X12_between) dX12_between_26 ?_
  refine x_iload_n (M := M_X12_between) dX12_between_28 rfl ?_
  refine x_if_eq (M := M_X12_between) (tgt := 42) dX12_between_29 (by decide) (fun q => absurd q (by decide +kernel)) (fun _ => ?_)
  refine x_aload_n (M := M_X12_between) dX12_between_32 rfl ?_
  have o9730 := (f9725 277 _ (by decide) o9719)
  refine x_getf (M := M_X12_between) (ci := 15) (C := RX12) (T := TX12) (N := 135) (ty := tyX12) cl15 dX12_between_33 o9730 39 (by decide) t_2430 (v := .ref 297) rfl ?_
  refine x_iload (M := M_X12_between) dX12_between_36 rfl ?_
  have o9731 := (f9725 297 _ (by decide) o9720)
  refine x_lald (M := M_X12_between) dX12_between_38 o9731 (vp_in_s (by omega) (by omega)) ?_
  refine x_topl (M := M_X12_between) (y := (Int64.ofInt 0)) rfl ?_
  refine x_goto (M := M_X12_between) (tgt := 49) dX12_between_39 (by decide) ?_
  refine x_norm (M := M_X12_between) (st' := [.long (Int64.ofInt 0), .int (Int32.ofInt 19), .ref 277]) rfl (v_cons (vi_cons (by decide +kernel : ((Int8.ofInt 19).toInt32) = (Int32.ofInt 19)) rfl)) rfl rfl rfl ?_
  refine y_callVR (M := M_X12_between) (M' := M_X12_load) rfl rfl dX12_between_49 m_X12_load t_3165 t_3167 s_212 (q7615 hl o9730 o9727 o9728 o9729) rfl rfl o9730 rfl (Nat.le_of_ble_eq_true rfl) (Nat.le_of_ble_eq_true rfl) (Nat.le_of_ble_eq_true rfl) (Nat.le_of_ble_eq_true rfl) (fun h9732 f9733 w9734 => ?_)
  obtain ⟨o9735, o9736, o9737, -⟩ := w9734
  refine x_aload_n (M := M_X12_between) dX12_between_52 rfl ?_
  refine x_iload_n (M := M_X12_between) dX12_between_53 rfl ?_
  refine x_bipush (M := M_X12_between) dX12_between_54 ?_
  refine x_bipush (M := M_X12_between) dX12_between_56 ?_
  refine x_iconst (M := M_X12_between) dX12_between_58 ?_
  refine x_norm (M := M_X12_between) (st' := [.int (Int32.ofInt 1), .int (Int32.ofInt 19), .int (Int32.ofInt 18), .int (Int32.ofInt 3), .ref 277]) rfl (v_cons (vi_cons (by decide +kernel : ((Int8.ofInt 19).toInt32) = (Int32.ofInt 19)) (vi_cons (by decide +kernel : ((Int8.ofInt 18).toInt32) = (Int32.ofInt 18)) rfl))) rfl rfl rfl ?_
  have o9738 := (f9733 277 _ (by decide) o9730)
  refine y_callVR (M := M_X12_between) (M' := M_X12_add) rfl rfl dX12_between_59 m_X12_add t_3174 t_3176 s_214 (q7959 hl o9738 o9737 o9736 o9735) rfl rfl o9738 rfl (Nat.le_of_ble_eq_true rfl) (Nat.le_of_ble_eq_true rfl) (Nat.le_of_ble_eq_true rfl) (Nat.le_of_ble_eq_true rfl) (fun h9739 f9740 w9741 => ?_)
  obtain ⟨o9742, o9743, o9744, -⟩ := w9741
  exact x_vret (M := M_X12_between) dX12_between_62 rfl ⟨rfl, (fr_tr f9740 (by decide) (fr_tr f9733 (by decide) (fr_tr f9725 (by decide) fr_rf))), ⟨o9742, o9743, o9744, trivial⟩⟩ (Nat.le_of_ble_eq_true rfl) (Nat.le_of_ble_eq_true rfl)
set_option maxRecDepth 10000 in
theorem q9788 {l : Launch} {E : EE} (hl : l.stackTraces = false) {h : HP} {dg : Int32} (o9775 : ob h 277 = some (.inr (15, ((RB dg).set 0 (.int (Int32.ofInt 0)))))) (o9776 : ob h 295 = some (.inl (0, 20, .inl (fun _ => 0)))) (o9777 : ob h 294 = some (.inl (1, 6000, .inr (.inl (fun _ => 0))))) : en_C l E M_X12_addSizes 1 0 0 [.ref 277, .int (Int32.ofInt 4), .int (Int32.ofInt 18), .int (Int32.ofInt 19)] h (pF none [294, 295] h (fun h' => ob h' 294 = some (.inl (1, 6000, .inr (.inl (fun _ => 0)))) ∧ ob h' 295 = some (.inl (0, 20, .inl (upd (fun _ => 0) 4 (Int32.ofInt 1)))) ∧ True)) := by
  refine en_mk m_X12_addSizes rfl hl (Nat.le_of_ble_eq_true rfl) ?_
  refine x_aload_n (M := M_X12_addSizes) dX12_addSizes_0 rfl ?_
  refine x_getf (M := M_X12_addSizes) (ci := 15) (C := RX12) (T := TX12) (N := 135) (ty := tyX12) cl15 dX12_addSizes_1 o9775 37 (by decide) t_2428 (v := .ref 295) rfl ?_
  refine x_iload_n (M := M_X12_addSizes) dX12_addSizes_4 rfl ?_
  refine x_iald (M := M_X12_addSizes) dX12_addSizes_5 o9776 (vp_inD (by decide +kernel)) ?_
  refine x_top (M := M_X12_addSizes) (y := (Int32.ofInt 0)) (by decide +kernel) ?_
  refine x_aload_n (M := M_X12_addSizes) dX12_addSizes_6 rfl ?_
  refine x_getf (M := M_X12_addSizes) (ci := 15) (C := RX12) (T := TX12) (N := 135) (ty := tyX12) cl15 dX12_addSizes_7 o9775 37 (by decide) t_2428 (v := .ref 295) rfl ?_
  refine x_iload_n (M := M_X12_addSizes) dX12_addSizes_10 rfl ?_
  refine x_iald (M := M_X12_addSizes) dX12_addSizes_11 o9776 (vp_inD (by decide +kernel)) ?_
  refine x_top (M := M_X12_addSizes) (y := (Int32.ofInt 0)) (by decide +kernel) ?_
  refine x_icmp_le (M := M_X12_addSizes) (tgt := 24) dX12_addSizes_12 (by decide) (fun _ => ?_) (fun q => absurd q (by decide +kernel))
  refine x_aload_n (M := M_X12_addSizes) dX12_addSizes_24 rfl ?_
  refine x_getf (M := M_X12_addSizes) (ci := 15) (C := RX12) (T := TX12) (N := 135) (ty := tyX12) cl15 dX12_addSizes_25 o9775 37 (by decide) t_2428 (v := .ref 295) rfl ?_
  refine x_iload_n (M := M_X12_addSizes) dX12_addSizes_28 rfl ?_
  refine x_iald (M := M_X12_addSizes) dX12_addSizes_29 o9776 (vp_inD (by decide +kernel)) ?_
  refine x_top (M := M_X12_addSizes) (y := (Int32.ofInt 0)) (by decide +kernel) ?_
  refine x_iconst (M := M_X12_addSizes) dX12_addSizes_30 ?_
  refine x_iadd (M := M_X12_addSizes) dX12_addSizes_31 ?_
  refine x_top (M := M_X12_addSizes) (y := (Int32.ofInt 1)) (by decide +kernel) ?_
  refine x_istore (M := M_X12_addSizes) dX12_addSizes_32 (Nat.le_of_ble_eq_true rfl) rfl ?_
  refine x_lconst (M := M_X12_addSizes) dX12_addSizes_34 ?_
  refine x_topl (M := M_X12_addSizes) (y := (Int64.ofInt 0)) (by decide +kernel) ?_
  refine x_lstore (M := M_X12_addSizes) dX12_addSizes_35 (Nat.le_of_ble_eq_true rfl) rfl ?_
  refine x_iconst (M := M_X12_addSizes) dX12_addSizes_37 ?_
  refine x_istore (M := M_X12_addSizes) dX12_addSizes_38 (Nat.le_of_ble_eq_true rfl) rfl ?_
  refine x_iload (M := M_X12_addSizes) dX12_addSizes_40 rfl ?_
  refine x_iload (M := M_X12_addSizes) dX12_addSizes_42 rfl ?_
  refine x_icmp_ge (M := M_X12_addSizes) (tgt := 99) dX12_addSizes_44 (by decide) (fun q => absurd q (by decide +kernel)) (fun _ => ?_)
  refine x_lload (M := M_X12_addSizes) dX12_addSizes_47 rfl ?_
  refine x_aload_n (M := M_X12_addSizes) dX12_addSizes_49 rfl ?_
  refine x_iload_n (M := M_X12_addSizes) dX12_addSizes_50 rfl ?_
  refine x_iload (M := M_X12_addSizes) dX12_addSizes_51 rfl ?_
  refine x_callVR (M := M_X12_addSizes) (M' := M_X12_limb) rfl rfl dX12_addSizes_53 m_X12_limb t_3182 t_3184 s_216 (q7628 hl o9775 o9776) rfl rfl o9775 rfl (Nat.le_of_ble_eq_true rfl) (Nat.le_of_ble_eq_true rfl) (Nat.le_of_ble_eq_true rfl) (Nat.le_of_ble_eq_true rfl) ?_
  refine x_aload_n (M := M_X12_addSizes) dX12_addSizes_56 rfl ?_
  refine x_iload_n (M := M_X12_addSizes) dX12_addSizes_57 rfl ?_
  refine x_iload (M := M_X12_addSizes) dX12_addSizes_58 rfl ?_
  refine x_callVR (M := M_X12_addSizes) (M' := M_X12_limb) rfl rfl dX12_addSizes_60 m_X12_limb t_3182 t_3184 s_216 (q7631 hl o9775 o9776) rfl rfl o9775 rfl (Nat.le_of_ble_eq_true rfl) (Nat.le_of_ble_eq_true rfl) (Nat.le_of_ble_eq_true rfl) (Nat.le_of_ble_eq_true rfl) ?_
  refine x_ladd (M := M_X12_addSizes) dX12_addSizes_63 ?_
  refine x_ladd (M := M_X12_addSizes) dX12_addSizes_64 ?_
  refine x_topl (M := M_X12_addSizes) (y := (Int64.ofInt 0)) (by decide +kernel) ?_
  refine x_lstore (M := M_X12_addSizes) dX12_addSizes_65 (Nat.le_of_ble_eq_true rfl) rfl ?_
  refine x_aload_n (M := M_X12_addSizes) dX12_addSizes_67 rfl ?_
  refine x_getf (M := M_X12_addSizes) (ci := 15) (C := RX12) (T := TX12) (N := 135) (ty := tyX12) cl15 dX12_addSizes_68 o9775 36 (by decide) t_2427 (v := .ref 294) rfl ?_
  refine x_sipush (M := M_X12_addSizes) dX12_addSizes_71 ?_
  refine x_iload_n (M := M_X12_addSizes) dX12_addSizes_74 rfl ?_
  refine x_imul (M := M_X12_addSizes) dX12_addSizes_75 ?_
  refine x_iload (M := M_X12_addSizes) dX12_addSizes_76 rfl ?_
  refine x_iadd (M := M_X12_addSizes) dX12_addSizes_78 ?_
  refine x_lload (M := M_X12_addSizes) dX12_addSizes_79 rfl ?_
  refine x_ldc2 (M := M_X12_addSizes) dX12_addSizes_81 t_3169 ?_
  refine x_land (M := M_X12_addSizes) dX12_addSizes_84 ?_
  refine x_norm (M := M_X12_addSizes) (st' := [.long (Int64.ofInt 0), .int (Int32.ofInt 1200), .ref 294]) rfl (vj_cons (by decide +kernel : ((Int64.ofInt 0) &&& (4294967295 : Int64)) = (Int64.ofInt 0)) (vi_cons (by decide +kernel : ((((Int16.ofInt 300).toInt32) * (Int32.ofInt 4)) + (Int32.ofInt 0)) = (Int32.ofInt 1200)) rfl)) rfl rfl rfl ?_
  refine y_last (M := M_X12_addSizes) (k := 1200) dX12_addSizes_85 o9777 (vp_inD (by decide +kernel)) (by decide +kernel) (fun h9778 w9779 f9780 => ?_)
  have w9781 : ob h9778 294 = some (.inl (1, 6000, .inr (.inl (fun _ => 0)))) := by rw [w9779, uq_z (k := 1200)]
  refine x_lload (M := M_X12_addSizes) dX12_addSizes_86 rfl ?_
  refine x_bipush (M := M_X12_addSizes) dX12_addSizes_88 ?_
  refine x_lushr (M := M_X12_addSizes) dX12_addSizes_90 ?_
  refine x_topl (M := M_X12_addSizes) (y := (Int64.ofInt 0)) (by decide +kernel) ?_
  refine x_lstore (M := M_X12_addSizes) dX12_addSizes_91 (Nat.le_of_ble_eq_true rfl) rfl ?_
  refine x_lvs (M := M_X12_addSizes) (lv' := [some (.ref 277), some (.int (Int32.ofInt 4)), some (.int (Int32.ofInt 18)), some (.int (Int32.ofInt 19)), some (.int (Int32.ofInt 1)), some (.long (Int64.ofInt 0)), none, some (.int (Int32.ofInt 0))]) rfl ?_
  refine x_iinc (M := M_X12_addSizes) dX12_addSizes_93 rfl (Nat.le_of_ble_eq_true rfl) rfl ?_
  refine x_lvs (M := M_X12_addSizes) (lv' := [some (.ref 277), some (.int (Int32.ofInt 4)), some (.int (Int32.ofInt 18)), some (.int (Int32.ofInt 19)), some (.int (Int32.ofInt 1)), some (.long (Int64.ofInt 0)), none, some (.int (Int32.ofInt 1))]) (by rw [(by decide +kernel : (Int32.ofInt 0) + Int32.ofInt 1 = (Int32.ofInt 1))] <;> rfl) ?_
  refine x_goto (M := M_X12_addSizes) (tgt := 40) dX12_addSizes_96 (by decide) ?_
  refine x_iload (M := M_X12_addSizes) dX12_addSizes_40 rfl ?_
  refine x_iload (M := M_X12_addSizes) dX12_addSizes_42 rfl ?_
  refine x_icmp_ge (M := M_X12_addSizes) (tgt := 99) dX12_addSizes_44 (by decide) (fun _ => ?_) (fun q => absurd q (by decide +kernel))
  refine x_aload_n (M := M_X12_addSizes) dX12_addSizes_99 rfl ?_
  have o9782 := (f9780 277 _ (by decide) o9775)
  refine x_getf (M := M_X12_addSizes) (ci := 15) (C := RX12) (T := TX12) (N := 135) (ty := tyX12) cl15 dX12_addSizes_100 o9782 37 (by decide) t_2428 (v := .ref 295) rfl ?_
  refine x_iload_n (M := M_X12_addSizes) dX12_addSizes_103 rfl ?_
  refine x_iload (M := M_X12_addSizes) dX12_addSizes_104 rfl ?_
  have o9783 := (f9780 295 _ (by decide) o9776)
  refine y_iast (M := M_X12_addSizes) (k := 4) dX12_addSizes_106 o9783 (vp_inD (by decide +kernel)) (by decide +kernel) (fun h9784 w9785 f9786 => ?_)
  have o9787 := (f9786 294 _ (by decide) w9781)
  exact x_vret (M := M_X12_addSizes) dX12_addSizes_107 rfl ⟨rfl, (fr_tr f9786 (by decide) (fr_tr f9780 (by decide) fr_rf)), ⟨o9787, w9785, trivial⟩⟩ (Nat.le_of_ble_eq_true rfl) (Nat.le_of_ble_eq_true rfl)
set_option maxRecDepth 10000 in
theorem q9817 {l : Launch} {E : EE} (hl : l.stackTraces = false) {h : HP} {dg : Int32} (o9802 : ob h 277 = some (.inr (15, ((RB dg).set 0 (.int (Int32.ofInt 0)))))) (o9803 : ob h 295 = some (.inl (0, 20, .inl (upd (fun _ => 0) 4 (Int32.ofInt 1))))) (o9804 : ob h 294 = some (.inl (1, 6000, .inr (.inl (fun _ => 0))))) (o9810 : ob h 296 = some (.inl (0, 20, .inl (fun _ => 0)))) : en_C l E M_X12_trim 0 0 0 [.ref 277, .int (Int32.ofInt 4)] h (pF none [295, 296] h (fun h' => ob h' 295 = some (.inl (0, 20, .inl (fun _ => 0))) ∧ ob h' 296 = some (.inl (0, 20, .inl (fun _ => 0))) ∧ True)) := by
  refine en_mk m_X12_trim rfl hl (Nat.le_of_ble_eq_true rfl) ?_
  refine x_aload_n (M := M_X12_trim) dX12_trim_0 rfl ?_
  refine x_getf (M := M_X12_trim) (ci := 15) (C := RX12) (T := TX12) (N := 135) (ty := tyX12) cl15 dX12_trim_1 o9802 37 (by decide) t_2428 (v := .ref 295) rfl ?_
  refine x_iload_n (M := M_X12_trim) dX12_trim_4 rfl ?_
  refine x_iald (M := M_X12_trim) dX12_trim_5 o9803 (vp_inD (by decide +kernel)) ?_
  refine x_top (M := M_X12_trim) (y := (Int32.ofInt 1)) (by decide +kernel) ?_
  refine x_if_le (M := M_X12_trim) (tgt := 46) dX12_trim_6 (by decide) (fun q => absurd q (by decide +kernel)) (fun _ => ?_)
  refine x_aload_n (M := M_X12_trim) dX12_trim_9 rfl ?_
  refine x_getf (M := M_X12_trim) (ci := 15) (C := RX12) (T := TX12) (N := 135) (ty := tyX12) cl15 dX12_trim_10 o9802 36 (by decide) t_2427 (v := .ref 294) rfl ?_
  refine x_sipush (M := M_X12_trim) dX12_trim_13 ?_
  refine x_iload_n (M := M_X12_trim) dX12_trim_16 rfl ?_
  refine x_imul (M := M_X12_trim) dX12_trim_17 ?_
  refine x_aload_n (M := M_X12_trim) dX12_trim_18 rfl ?_
  refine x_getf (M := M_X12_trim) (ci := 15) (C := RX12) (T := TX12) (N := 135) (ty := tyX12) cl15 dX12_trim_19 o9802 37 (by decide) t_2428 (v := .ref 295) rfl ?_
  refine x_iload_n (M := M_X12_trim) dX12_trim_22 rfl ?_
  refine x_iald (M := M_X12_trim) dX12_trim_23 o9803 (vp_inD (by decide +kernel)) ?_
  refine x_top (M := M_X12_trim) (y := (Int32.ofInt 1)) (by decide +kernel) ?_
  refine x_iadd (M := M_X12_trim) dX12_trim_24 ?_
  refine x_iconst (M := M_X12_trim) dX12_trim_25 ?_
  refine x_isub (M := M_X12_trim) dX12_trim_26 ?_
  refine x_lald (M := M_X12_trim) dX12_trim_27 o9804 (vp_inD (by decide +kernel)) ?_
  refine x_topl (M := M_X12_trim) (y := (Int64.ofInt 0)) (by decide +kernel) ?_
  refine x_lconst (M := M_X12_trim) dX12_trim_28 ?_
  refine x_lcmp (M := M_X12_trim) dX12_trim_29 ?_
  refine x_if_ne (M := M_X12_trim) (tgt := 46) dX12_trim_30 (by decide) (fun q => absurd q (by decide +kernel)) (fun _ => ?_)
  refine x_aload_n (M := M_X12_trim) dX12_trim_33 rfl ?_
  refine x_getf (M := M_X12_trim) (ci := 15) (C := RX12) (T := TX12) (N := 135) (ty := tyX12) cl15 dX12_trim_34 o9802 37 (by decide) t_2428 (v := .ref 295) rfl ?_
  refine x_iload_n (M := M_X12_trim) dX12_trim_37 rfl ?_
  refine x_dup2 (M := M_X12_trim) dX12_trim_38 rfl rfl ?_
  refine x_iald (M := M_X12_trim) dX12_trim_39 o9803 (vp_inD (by decide +kernel)) ?_
  refine x_top (M := M_X12_trim) (y := (Int32.ofInt 1)) (by decide +kernel) ?_
  refine x_iconst (M := M_X12_trim) dX12_trim_40 ?_
  refine x_isub (M := M_X12_trim) dX12_trim_41 ?_
  refine x_norm (M := M_X12_trim) (st' := [.int (Int32.ofInt 0), .int (Int32.ofInt 4), .ref 295]) rfl (vi_cons (by decide +kernel : ((Int32.ofInt 1) - (Int32.ofInt 1)) = (Int32.ofInt 0)) rfl) rfl rfl rfl ?_
  refine y_iast (M := M_X12_trim) (k := 4) dX12_trim_42 o9803 (vp_inD (by decide +kernel)) (by decide +kernel) (fun h9805 w9806 f9807 => ?_)
  have w9808 : ob h9805 295 = some (.inl (0, 20, .inl (fun _ => 0))) := by rw [w9806, up_up (k := 4), up_z (k := 4)]
  refine x_goto (M := M_X12_trim) (tgt := 0) dX12_trim_43 (by decide) ?_
  refine x_aload_n (M := M_X12_trim) dX12_trim_0 rfl ?_
  have o9809 := (f9807 277 _ (by decide) o9802)
  refine x_getf (M := M_X12_trim) (ci := 15) (C := RX12) (T := TX12) (N := 135) (ty := tyX12) cl15 dX12_trim_1 o9809 37 (by decide) t_2428 (v := .ref 295) rfl ?_
  refine x_iload_n (M := M_X12_trim) dX12_trim_4 rfl ?_
  refine x_iald (M := M_X12_trim) dX12_trim_5 w9808 (vp_inD (by decide +kernel)) ?_
  refine x_top (M := M_X12_trim) (y := (Int32.ofInt 0)) (by decide +kernel) ?_
  refine x_if_le (M := M_X12_trim) (tgt := 46) dX12_trim_6 (by decide) (fun _ => ?_) (fun q => absurd q (by decide +kernel))
  refine x_aload_n (M := M_X12_trim) dX12_trim_46 rfl ?_
  refine x_getf (M := M_X12_trim) (ci := 15) (C := RX12) (T := TX12) (N := 135) (ty := tyX12) cl15 dX12_trim_47 o9809 37 (by decide) t_2428 (v := .ref 295) rfl ?_
  refine x_iload_n (M := M_X12_trim) dX12_trim_50 rfl ?_
  refine x_iald (M := M_X12_trim) dX12_trim_51 w9808 (vp_inD (by decide +kernel)) ?_
  refine x_top (M := M_X12_trim) (y := (Int32.ofInt 0)) (by decide +kernel) ?_
  refine x_if_ne (M := M_X12_trim) (tgt := 62) dX12_trim_52 (by decide) (fun q => absurd q (by decide +kernel)) (fun _ => ?_)
  refine x_aload_n (M := M_X12_trim) dX12_trim_55 rfl ?_
  refine x_getf (M := M_X12_trim) (ci := 15) (C := RX12) (T := TX12) (N := 135) (ty := tyX12) cl15 dX12_trim_56 o9809 38 (by decide) t_2429 (v := .ref 296) rfl ?_
  refine x_iload_n (M := M_X12_trim) dX12_trim_59 rfl ?_
  refine x_iconst (M := M_X12_trim) dX12_trim_60 ?_
  have o9811 := (f9807 296 _ (by decide) o9810)
  refine y_iast (M := M_X12_trim) (k := 4) dX12_trim_61 o9811 (vp_inD (by decide +kernel)) (by decide +kernel) (fun h9812 w9813 f9814 => ?_)
  have w9815 : ob h9812 296 = some (.inl (0, 20, .inl (fun _ => 0))) := by rw [w9813, up_z (k := 4)]
  have o9816 := (f9814 295 _ (by decide) w9808)
  exact x_vret (M := M_X12_trim) dX12_trim_62 rfl ⟨rfl, (fr_tr f9814 (by decide) (fr_tr f9807 (by decide) fr_rf)), ⟨o9816, w9815, trivial⟩⟩ (Nat.le_of_ble_eq_true rfl) (Nat.le_of_ble_eq_true rfl)
set_option maxRecDepth 10000 in
theorem q9827 {l : Launch} {E : EE} (hl : l.stackTraces = false) {h : HP} {dg : Int32} (o9773 : ob h 277 = some (.inr (15, ((RB dg).set 0 (.int (Int32.ofInt 0)))))) (o9774 : ob h 296 = some (.inl (0, 20, .inl (fun _ => 0)))) (o9789 : ob h 295 = some (.inl (0, 20, .inl (fun _ => 0)))) (o9790 : ob h 294 = some (.inl (1, 6000, .inr (.inl (fun _ => 0))))) : en_C l E M_X12_add 2 0 0 [.ref 277, .int (Int32.ofInt 4), .int (Int32.ofInt 18), .int (Int32.ofInt 19), .int (Int32.ofInt 1)] h (pF none [294, 295, 296] h (fun h' => ob h' 294 = some (.inl (1, 6000, .inr (.inl (fun _ => 0)))) ∧ ob h' 295 = some (.inl (0, 20, .inl (fun _ => 0))) ∧ ob h' 296 = some (.inl (0, 20, .inl (fun _ => 0))) ∧ True)) := by
  refine en_mk m_X12_add rfl hl (Nat.le_of_ble_eq_true rfl) ?_
  refine x_aload_n (M := M_X12_add) dX12_add_0 rfl ?_
  refine x_getf (M := M_X12_add) (ci := 15) (C := RX12) (T := TX12) (N := 135) (ty := tyX12) cl15 dX12_add_1 o9773 38 (by decide) t_2429 (v := .ref 296) rfl ?_
  refine x_iload_n (M := M_X12_add) dX12_add_4 rfl ?_
  refine x_iald (M := M_X12_add) dX12_add_5 o9774 (vp_inD (by decide +kernel)) ?_
  refine x_top (M := M_X12_add) (y := (Int32.ofInt 0)) (by decide +kernel) ?_
  refine x_istore (M := M_X12_add) dX12_add_6 (Nat.le_of_ble_eq_true rfl) rfl ?_
  refine x_iload (M := M_X12_add) dX12_add_8 rfl ?_
  refine x_if_eq (M := M_X12_add) (tgt := 23) dX12_add_10 (by decide) (fun q => absurd q (by decide +kernel)) (fun _ => ?_)
  refine x_aload_n (M := M_X12_add) dX12_add_13 rfl ?_
  refine x_getf (M := M_X12_add) (ci := 15) (C := RX12) (T := TX12) (N := 135) (ty := tyX12) cl15 dX12_add_14 o9773 38 (by decide) t_2429 (v := .ref 296) rfl ?_
  refine x_iload_n (M := M_X12_add) dX12_add_17 rfl ?_
  refine x_iald (M := M_X12_add) dX12_add_18 o9774 (vp_inD (by decide +kernel)) ?_
  refine x_top (M := M_X12_add) (y := (Int32.ofInt 0)) (by decide +kernel) ?_
  refine x_ineg (M := M_X12_add) dX12_add_19 ?_
  refine x_goto (M := M_X12_add) (tgt := 29) dX12_add_20 (by decide) ?_
  refine x_top (M := M_X12_add) (y := (Int32.ofInt 0)) (by decide +kernel) ?_
  refine x_istore (M := M_X12_add) dX12_add_29 (Nat.le_of_ble_eq_true rfl) rfl ?_
  refine x_iload (M := M_X12_add) dX12_add_31 rfl ?_
  refine x_if_eq (M := M_X12_add) (tgt := 48) dX12_add_33 (by decide) (fun _ => ?_) (fun q => absurd q (by decide +kernel))
  refine x_aload_n (M := M_X12_add) dX12_add_48 rfl ?_
  refine x_iload_n (M := M_X12_add) dX12_add_49 rfl ?_
  refine x_iload_n (M := M_X12_add) dX12_add_50 rfl ?_
  refine x_iload_n (M := M_X12_add) dX12_add_51 rfl ?_
  refine y_callVR (M := M_X12_add) (M' := M_X12_addSizes) rfl rfl dX12_add_52 m_X12_addSizes t_3178 t_3180 s_215 (q9788 hl o9773 o9789 o9790) rfl rfl o9773 rfl (Nat.le_of_ble_eq_true rfl) (Nat.le_of_ble_eq_true rfl) (Nat.le_of_ble_eq_true rfl) (Nat.le_of_ble_eq_true rfl) (fun h9791 f9792 w9793 => ?_)
  obtain ⟨o9794, o9795, -⟩ := w9793
  refine x_aload_n (M := M_X12_add) dX12_add_55 rfl ?_
  have o9796 := (f9792 277 _ (by decide) o9773)
  refine x_getf (M := M_X12_add) (ci := 15) (C := RX12) (T := TX12) (N := 135) (ty := tyX12) cl15 dX12_add_56 o9796 38 (by decide) t_2429 (v := .ref 296) rfl ?_
  refine x_iload_n (M := M_X12_add) dX12_add_59 rfl ?_
  refine x_iload (M := M_X12_add) dX12_add_60 rfl ?_
  refine x_if_ne (M := M_X12_add) (tgt := 70) dX12_add_62 (by decide) (fun q => absurd q (by decide +kernel)) (fun _ => ?_)
  refine x_iload (M := M_X12_add) dX12_add_65 rfl ?_
  refine x_goto (M := M_X12_add) (tgt := 72) dX12_add_67 (by decide) ?_
  have o9797 := (f9792 296 _ (by decide) o9774)
  refine y_iast (M := M_X12_add) (k := 4) dX12_add_72 o9797 (vp_inD (by decide +kernel)) (by decide +kernel) (fun h9798 w9799 f9800 => ?_)
  have w9801 : ob h9798 296 = some (.inl (0, 20, .inl (fun _ => 0))) := by rw [w9799, up_z (k := 4)]
  refine x_goto (M := M_X12_add) (tgt := 118) dX12_add_73 (by decide) ?_
  refine x_aload_n (M := M_X12_add) dX12_add_118 rfl ?_
  refine x_iload_n (M := M_X12_add) dX12_add_119 rfl ?_
  have o9818 := (f9800 277 _ (by decide) o9796)
  have o9819 := (f9800 295 _ (by decide) o9795)
  have o9820 := (f9800 294 _ (by decide) o9794)
  refine y_callVR (M := M_X12_add) (M' := M_X12_trim) rfl rfl dX12_add_120 m_X12_trim t_3170 t_3172 s_213 (q9817 hl o9818 o9819 o9820 w9801) rfl rfl o9818 rfl (Nat.le_of_ble_eq_true rfl) (Nat.le_of_ble_eq_true rfl) (Nat.le_of_ble_eq_true rfl) (Nat.le_of_ble_eq_true rfl) (fun h9821 f9822 w9823 => ?_)
  obtain ⟨o9824, o9825, -⟩ := w9823
  have o9826 := (f9822 294 _ (by decide) o9820)
  exact x_vret (M := M_X12_add) dX12_add_123 rfl ⟨rfl, (fr_tr f9822 (by decide) (fr_tr f9800 (by decide) (fr_tr f9792 (by decide) fr_rf))), ⟨o9826, o9824, o9825, trivial⟩⟩ (Nat.le_of_ble_eq_true rfl) (Nat.le_of_ble_eq_true rfl)
set_option maxRecDepth 10000 in
theorem q9835 {l : Launch} {E : EE} (hl : l.stackTraces = false) {h : HP} {a1 : Int32} {a3 : Int32} {dg : Int32} (c0 : ¬ (a1.toInt < 0)) (c1 : a1.toInt < 32) (c2 : ¬ (a3.toInt < 0)) (c3 : a3.toInt < 32) (o9754 : ob h 277 = some (.inr (15, ((RB dg).set 0 (.int (Int32.ofInt 0)))))) (o9755 : ob h 298 = some (.inl (1, 32, .inr (.inl (fun _ => 0))))) (o9756 : ob h 294 = some (.inl (1, 6000, .inr (.inl (fun _ => 0))))) (o9757 : ob h 295 = some (.inl (0, 20, .inl (fun _ => 0)))) (o9758 : ob h 296 = some (.inl (0, 20, .inl (fun _ => 0)))) : en_C l E M_X12_between 3 0 0 [.ref 277, .int (Int32.ofInt 4), .int (Int32.ofInt 0), .int a1, .int a3] h (pF none [294, 295, 296] h (fun h' => ob h' 294 = some (.inl (1, 6000, .inr (.inl (fun _ => 0)))) ∧ ob h' 295 = some (.inl (0, 20, .inl (fun _ => 0))) ∧ ob h' 296 = some (.inl (0, 20, .inl (fun _ => 0))) ∧ True)) := by
  refine en_mk m_X12_between rfl hl (Nat.le_of_ble_eq_true rfl) ?_
  refine x_aload_n (M := M_X12_between) dX12_between_0 rfl ?_
  refine x_bipush (M := M_X12_between) dX12_between_1 ?_
  refine x_iload_n (M := M_X12_between) dX12_between_3 rfl ?_
  refine x_if_eq (M := M_X12_between) (tgt := 16) dX12_between_4 (by decide) (fun _ => ?_) (fun q => absurd q (by decide +kernel))
  refine x_aload_n (M := M_X12_between) dX12_between_16 rfl ?_
  refine x_getf (M := M_X12_between) (ci := 15) (C := RX12) (T := TX12) (N := 135) (ty := tyX12) cl15 dX12_between_17 o9754 40 (by decide) t_2431 (v := .ref 298) rfl ?_
  refine x_iload_n (M := M_X12_between) dX12_between_20 rfl ?_
  refine x_lald (M := M_X12_between) dX12_between_21 o9755 (vp_in_s (by omega) (by omega)) ?_
  refine x_topl (M := M_X12_between) (y := (Int64.ofInt 0)) rfl ?_
  refine x_norm (M := M_X12_between) (st' := [.long (Int64.ofInt 0), .int (Int32.ofInt 18), .ref 277]) rfl (v_cons (vi_cons (by decide +kernel : ((Int8.ofInt 18).toInt32) = (Int32.ofInt 18)) rfl)) rfl rfl rfl ?_
  refine y_callVR (M := M_X12_between) (M' := M_X12_load) rfl rfl dX12_between_22 m_X12_load t_3165 t_3167 s_212 (q7538 hl o9754 o9756 o9757 o9758) rfl rfl o9754 rfl (Nat.le_of_ble_eq_true rfl) (Nat.le_of_ble_eq_true rfl) (Nat.le_of_ble_eq_true rfl) (Nat.le_of_ble_eq_true rfl) (fun h9759 f9760 w9761 => ?_)
  obtain ⟨o9762, o9763, o9764, -⟩ := w9761
  refine x_aload_n (M := M_X12_between) dX12_between_25 rfl ?_
  refine x_bipush (M := M_X12_between) dX12_between_26 ?_
  refine x_iload_n (M := M_X12_between) dX12_between_28 rfl ?_
  refine x_if_eq (M := M_X12_between) (tgt := 42) dX12_between_29 (by decide) (fun _ => ?_) (fun q => absurd q (by decide +kernel))
  refine x_aload_n (M := M_X12_between) dX12_between_42 rfl ?_
  have o9765 := (f9760 277 _ (by decide) o9754)
  refine x_getf (M := M_X12_between) (ci := 15) (C := RX12) (T := TX12) (N := 135) (ty := tyX12) cl15 dX12_between_43 o9765 40 (by decide) t_2431 (v := .ref 298) rfl ?_
  refine x_iload (M := M_X12_between) dX12_between_46 rfl ?_
  have o9766 := (f9760 298 _ (by decide) o9755)
  refine x_lald (M := M_X12_between) dX12_between_48 o9766 (vp_in_s (by omega) (by omega)) ?_
  refine x_topl (M := M_X12_between) (y := (Int64.ofInt 0)) rfl ?_
  refine x_norm (M := M_X12_between) (st' := [.long (Int64.ofInt 0), .int (Int32.ofInt 19), .ref 277]) rfl (v_cons (vi_cons (by decide +kernel : ((Int8.ofInt 19).toInt32) = (Int32.ofInt 19)) rfl)) rfl rfl rfl ?_
  refine y_callVR (M := M_X12_between) (M' := M_X12_load) rfl rfl dX12_between_49 m_X12_load t_3165 t_3167 s_212 (q7615 hl o9765 o9762 o9763 o9764) rfl rfl o9765 rfl (Nat.le_of_ble_eq_true rfl) (Nat.le_of_ble_eq_true rfl) (Nat.le_of_ble_eq_true rfl) (Nat.le_of_ble_eq_true rfl) (fun h9767 f9768 w9769 => ?_)
  obtain ⟨o9770, o9771, o9772, -⟩ := w9769
  refine x_aload_n (M := M_X12_between) dX12_between_52 rfl ?_
  refine x_iload_n (M := M_X12_between) dX12_between_53 rfl ?_
  refine x_bipush (M := M_X12_between) dX12_between_54 ?_
  refine x_bipush (M := M_X12_between) dX12_between_56 ?_
  refine x_iconst (M := M_X12_between) dX12_between_58 ?_
  refine x_norm (M := M_X12_between) (st' := [.int (Int32.ofInt 1), .int (Int32.ofInt 19), .int (Int32.ofInt 18), .int (Int32.ofInt 4), .ref 277]) rfl (v_cons (vi_cons (by decide +kernel : ((Int8.ofInt 19).toInt32) = (Int32.ofInt 19)) (vi_cons (by decide +kernel : ((Int8.ofInt 18).toInt32) = (Int32.ofInt 18)) rfl))) rfl rfl rfl ?_
  have o9828 := (f9768 277 _ (by decide) o9765)
  refine y_callVR (M := M_X12_between) (M' := M_X12_add) rfl rfl dX12_between_59 m_X12_add t_3174 t_3176 s_214 (q9827 hl o9828 o9772 o9771 o9770) rfl rfl o9828 rfl (Nat.le_of_ble_eq_true rfl) (Nat.le_of_ble_eq_true rfl) (Nat.le_of_ble_eq_true rfl) (Nat.le_of_ble_eq_true rfl) (fun h9829 f9830 w9831 => ?_)
  obtain ⟨o9832, o9833, o9834, -⟩ := w9831
  exact x_vret (M := M_X12_between) dX12_between_62 rfl ⟨rfl, (fr_tr f9830 (by decide) (fr_tr f9768 (by decide) (fr_tr f9760 (by decide) fr_rf))), ⟨o9832, o9833, o9834, trivial⟩⟩ (Nat.le_of_ble_eq_true rfl) (Nat.le_of_ble_eq_true rfl)
set_option maxRecDepth 10000 in
theorem q9878 {l : Launch} {E : EE} (hl : l.stackTraces = false) {h : HP} {dg : Int32} (o9865 : ob h 277 = some (.inr (15, ((RB dg).set 0 (.int (Int32.ofInt 0)))))) (o9866 : ob h 295 = some (.inl (0, 20, .inl (fun _ => 0)))) (o9867 : ob h 294 = some (.inl (1, 6000, .inr (.inl (fun _ => 0))))) : en_C l E M_X12_addSizes 1 0 0 [.ref 277, .int (Int32.ofInt 6), .int (Int32.ofInt 18), .int (Int32.ofInt 19)] h (pF none [294, 295] h (fun h' => ob h' 294 = some (.inl (1, 6000, .inr (.inl (fun _ => 0)))) ∧ ob h' 295 = some (.inl (0, 20, .inl (upd (fun _ => 0) 6 (Int32.ofInt 1)))) ∧ True)) := by
  refine en_mk m_X12_addSizes rfl hl (Nat.le_of_ble_eq_true rfl) ?_
  refine x_aload_n (M := M_X12_addSizes) dX12_addSizes_0 rfl ?_
  refine x_getf (M := M_X12_addSizes) (ci := 15) (C := RX12) (T := TX12) (N := 135) (ty := tyX12) cl15 dX12_addSizes_1 o9865 37 (by decide) t_2428 (v := .ref 295) rfl ?_
  refine x_iload_n (M := M_X12_addSizes) dX12_addSizes_4 rfl ?_
  refine x_iald (M := M_X12_addSizes) dX12_addSizes_5 o9866 (vp_inD (by decide +kernel)) ?_
  refine x_top (M := M_X12_addSizes) (y := (Int32.ofInt 0)) (by decide +kernel) ?_
  refine x_aload_n (M := M_X12_addSizes) dX12_addSizes_6 rfl ?_
  refine x_getf (M := M_X12_addSizes) (ci := 15) (C := RX12) (T := TX12) (N := 135) (ty := tyX12) cl15 dX12_addSizes_7 o9865 37 (by decide) t_2428 (v := .ref 295) rfl ?_
  refine x_iload_n (M := M_X12_addSizes) dX12_addSizes_10 rfl ?_
  refine x_iald (M := M_X12_addSizes) dX12_addSizes_11 o9866 (vp_inD (by decide +kernel)) ?_
  refine x_top (M := M_X12_addSizes) (y := (Int32.ofInt 0)) (by decide +kernel) ?_
  refine x_icmp_le (M := M_X12_addSizes) (tgt := 24) dX12_addSizes_12 (by decide) (fun _ => ?_) (fun q => absurd q (by decide +kernel))
  refine x_aload_n (M := M_X12_addSizes) dX12_addSizes_24 rfl ?_
  refine x_getf (M := M_X12_addSizes) (ci := 15) (C := RX12) (T := TX12) (N := 135) (ty := tyX12) cl15 dX12_addSizes_25 o9865 37 (by decide) t_2428 (v := .ref 295) rfl ?_
  refine x_iload_n (M := M_X12_addSizes) dX12_addSizes_28 rfl ?_
  refine x_iald (M := M_X12_addSizes) dX12_addSizes_29 o9866 (vp_inD (by decide +kernel)) ?_
  refine x_top (M := M_X12_addSizes) (y := (Int32.ofInt 0)) (by decide +kernel) ?_
  refine x_iconst (M := M_X12_addSizes) dX12_addSizes_30 ?_
  refine x_iadd (M := M_X12_addSizes) dX12_addSizes_31 ?_
  refine x_top (M := M_X12_addSizes) (y := (Int32.ofInt 1)) (by decide +kernel) ?_
  refine x_istore (M := M_X12_addSizes) dX12_addSizes_32 (Nat.le_of_ble_eq_true rfl) rfl ?_
  refine x_lconst (M := M_X12_addSizes) dX12_addSizes_34 ?_
  refine x_topl (M := M_X12_addSizes) (y := (Int64.ofInt 0)) (by decide +kernel) ?_
  refine x_lstore (M := M_X12_addSizes) dX12_addSizes_35 (Nat.le_of_ble_eq_true rfl) rfl ?_
  refine x_iconst (M := M_X12_addSizes) dX12_addSizes_37 ?_
  refine x_istore (M := M_X12_addSizes) dX12_addSizes_38 (Nat.le_of_ble_eq_true rfl) rfl ?_
  refine x_iload (M := M_X12_addSizes) dX12_addSizes_40 rfl ?_
  refine x_iload (M := M_X12_addSizes) dX12_addSizes_42 rfl ?_
  refine x_icmp_ge (M := M_X12_addSizes) (tgt := 99) dX12_addSizes_44 (by decide) (fun q => absurd q (by decide +kernel)) (fun _ => ?_)
  refine x_lload (M := M_X12_addSizes) dX12_addSizes_47 rfl ?_
  refine x_aload_n (M := M_X12_addSizes) dX12_addSizes_49 rfl ?_
  refine x_iload_n (M := M_X12_addSizes) dX12_addSizes_50 rfl ?_
  refine x_iload (M := M_X12_addSizes) dX12_addSizes_51 rfl ?_
  refine x_callVR (M := M_X12_addSizes) (M' := M_X12_limb) rfl rfl dX12_addSizes_53 m_X12_limb t_3182 t_3184 s_216 (q7628 hl o9865 o9866) rfl rfl o9865 rfl (Nat.le_of_ble_eq_true rfl) (Nat.le_of_ble_eq_true rfl) (Nat.le_of_ble_eq_true rfl) (Nat.le_of_ble_eq_true rfl) ?_
  refine x_aload_n (M := M_X12_addSizes) dX12_addSizes_56 rfl ?_
  refine x_iload_n (M := M_X12_addSizes) dX12_addSizes_57 rfl ?_
  refine x_iload (M := M_X12_addSizes) dX12_addSizes_58 rfl ?_
  refine x_callVR (M := M_X12_addSizes) (M' := M_X12_limb) rfl rfl dX12_addSizes_60 m_X12_limb t_3182 t_3184 s_216 (q7631 hl o9865 o9866) rfl rfl o9865 rfl (Nat.le_of_ble_eq_true rfl) (Nat.le_of_ble_eq_true rfl) (Nat.le_of_ble_eq_true rfl) (Nat.le_of_ble_eq_true rfl) ?_
  refine x_ladd (M := M_X12_addSizes) dX12_addSizes_63 ?_
  refine x_ladd (M := M_X12_addSizes) dX12_addSizes_64 ?_
  refine x_topl (M := M_X12_addSizes) (y := (Int64.ofInt 0)) (by decide +kernel) ?_
  refine x_lstore (M := M_X12_addSizes) dX12_addSizes_65 (Nat.le_of_ble_eq_true rfl) rfl ?_
  refine x_aload_n (M := M_X12_addSizes) dX12_addSizes_67 rfl ?_
  refine x_getf (M := M_X12_addSizes) (ci := 15) (C := RX12) (T := TX12) (N := 135) (ty := tyX12) cl15 dX12_addSizes_68 o9865 36 (by decide) t_2427 (v := .ref 294) rfl ?_
  refine x_sipush (M := M_X12_addSizes) dX12_addSizes_71 ?_
  refine x_iload_n (M := M_X12_addSizes) dX12_addSizes_74 rfl ?_
  refine x_imul (M := M_X12_addSizes) dX12_addSizes_75 ?_
  refine x_iload (M := M_X12_addSizes) dX12_addSizes_76 rfl ?_
  refine x_iadd (M := M_X12_addSizes) dX12_addSizes_78 ?_
  refine x_lload (M := M_X12_addSizes) dX12_addSizes_79 rfl ?_
  refine x_ldc2 (M := M_X12_addSizes) dX12_addSizes_81 t_3169 ?_
  refine x_land (M := M_X12_addSizes) dX12_addSizes_84 ?_
  refine x_norm (M := M_X12_addSizes) (st' := [.long (Int64.ofInt 0), .int (Int32.ofInt 1800), .ref 294]) rfl (vj_cons (by decide +kernel : ((Int64.ofInt 0) &&& (4294967295 : Int64)) = (Int64.ofInt 0)) (vi_cons (by decide +kernel : ((((Int16.ofInt 300).toInt32) * (Int32.ofInt 6)) + (Int32.ofInt 0)) = (Int32.ofInt 1800)) rfl)) rfl rfl rfl ?_
  refine y_last (M := M_X12_addSizes) (k := 1800) dX12_addSizes_85 o9867 (vp_inD (by decide +kernel)) (by decide +kernel) (fun h9868 w9869 f9870 => ?_)
  have w9871 : ob h9868 294 = some (.inl (1, 6000, .inr (.inl (fun _ => 0)))) := by rw [w9869, uq_z (k := 1800)]
  refine x_lload (M := M_X12_addSizes) dX12_addSizes_86 rfl ?_
  refine x_bipush (M := M_X12_addSizes) dX12_addSizes_88 ?_
  refine x_lushr (M := M_X12_addSizes) dX12_addSizes_90 ?_
  refine x_topl (M := M_X12_addSizes) (y := (Int64.ofInt 0)) (by decide +kernel) ?_
  refine x_lstore (M := M_X12_addSizes) dX12_addSizes_91 (Nat.le_of_ble_eq_true rfl) rfl ?_
  refine x_lvs (M := M_X12_addSizes) (lv' := [some (.ref 277), some (.int (Int32.ofInt 6)), some (.int (Int32.ofInt 18)), some (.int (Int32.ofInt 19)), some (.int (Int32.ofInt 1)), some (.long (Int64.ofInt 0)), none, some (.int (Int32.ofInt 0))]) rfl ?_
  refine x_iinc (M := M_X12_addSizes) dX12_addSizes_93 rfl (Nat.le_of_ble_eq_true rfl) rfl ?_
  refine x_lvs (M := M_X12_addSizes) (lv' := [some (.ref 277), some (.int (Int32.ofInt 6)), some (.int (Int32.ofInt 18)), some (.int (Int32.ofInt 19)), some (.int (Int32.ofInt 1)), some (.long (Int64.ofInt 0)), none, some (.int (Int32.ofInt 1))]) (by rw [(by decide +kernel : (Int32.ofInt 0) + Int32.ofInt 1 = (Int32.ofInt 1))] <;> rfl) ?_
  refine x_goto (M := M_X12_addSizes) (tgt := 40) dX12_addSizes_96 (by decide) ?_
  refine x_iload (M := M_X12_addSizes) dX12_addSizes_40 rfl ?_
  refine x_iload (M := M_X12_addSizes) dX12_addSizes_42 rfl ?_
  refine x_icmp_ge (M := M_X12_addSizes) (tgt := 99) dX12_addSizes_44 (by decide) (fun _ => ?_) (fun q => absurd q (by decide +kernel))
  refine x_aload_n (M := M_X12_addSizes) dX12_addSizes_99 rfl ?_
  have o9872 := (f9870 277 _ (by decide) o9865)
  refine x_getf (M := M_X12_addSizes) (ci := 15) (C := RX12) (T := TX12) (N := 135) (ty := tyX12) cl15 dX12_addSizes_100 o9872 37 (by decide) t_2428 (v := .ref 295) rfl ?_
  refine x_iload_n (M := M_X12_addSizes) dX12_addSizes_103 rfl ?_
  refine x_iload (M := M_X12_addSizes) dX12_addSizes_104 rfl ?_
  have o9873 := (f9870 295 _ (by decide) o9866)
  refine y_iast (M := M_X12_addSizes) (k := 6) dX12_addSizes_106 o9873 (vp_inD (by decide +kernel)) (by decide +kernel) (fun h9874 w9875 f9876 => ?_)
  have o9877 := (f9876 294 _ (by decide) w9871)
  exact x_vret (M := M_X12_addSizes) dX12_addSizes_107 rfl ⟨rfl, (fr_tr f9876 (by decide) (fr_tr f9870 (by decide) fr_rf)), ⟨o9877, w9875, trivial⟩⟩ (Nat.le_of_ble_eq_true rfl) (Nat.le_of_ble_eq_true rfl)
set_option maxRecDepth 10000 in
theorem q9901 {l : Launch} {E : EE} (hl : l.stackTraces = false) {h : HP} {dg : Int32} (o9863 : ob h 277 = some (.inr (15, ((RB dg).set 0 (.int (Int32.ofInt 0)))))) (o9864 : ob h 296 = some (.inl (0, 20, .inl (fun _ => 0)))) (o9879 : ob h 295 = some (.inl (0, 20, .inl (fun _ => 0)))) (o9880 : ob h 294 = some (.inl (1, 6000, .inr (.inl (fun _ => 0))))) : en_C l E M_X12_add 2 0 0 [.ref 277, .int (Int32.ofInt 6), .int (Int32.ofInt 18), .int (Int32.ofInt 19), .int (Int32.ofInt 1)] h (pF none [294, 295, 296] h (fun h' => ob h' 294 = some (.inl (1, 6000, .inr (.inl (fun _ => 0)))) ∧ ob h' 295 = some (.inl (0, 20, .inl (fun _ => 0))) ∧ ob h' 296 = some (.inl (0, 20, .inl (fun _ => 0))) ∧ True)) := by
  refine en_mk m_X12_add rfl hl (Nat.le_of_ble_eq_true rfl) ?_
  refine x_aload_n (M := M_X12_add) dX12_add_0 rfl ?_
  refine x_getf (M := M_X12_add) (ci := 15) (C := RX12) (T := TX12) (N := 135) (ty := tyX12) cl15 dX12_add_1 o9863 38 (by decide) t_2429 (v := .ref 296) rfl ?_
  refine x_iload_n (M := M_X12_add) dX12_add_4 rfl ?_
  refine x_iald (M := M_X12_add) dX12_add_5 o9864 (vp_inD (by decide +kernel)) ?_
  refine x_top (M := M_X12_add) (y := (Int32.ofInt 0)) (by decide +kernel) ?_
  refine x_istore (M := M_X12_add) dX12_add_6 (Nat.le_of_ble_eq_true rfl) rfl ?_
  refine x_iload (M := M_X12_add) dX12_add_8 rfl ?_
  refine x_if_eq (M := M_X12_add) (tgt := 23) dX12_add_10 (by decide) (fun q => absurd q (by decide +kernel)) (fun _ => ?_)
  refine x_aload_n (M := M_X12_add) dX12_add_13 rfl ?_
  refine x_getf (M := M_X12_add) (ci := 15) (C := RX12) (T := TX12) (N := 135) (ty := tyX12) cl15 dX12_add_14 o9863 38 (by decide) t_2429 (v := .ref 296) rfl ?_
  refine x_iload_n (M := M_X12_add) dX12_add_17 rfl ?_
  refine x_iald (M := M_X12_add) dX12_add_18 o9864 (vp_inD (by decide +kernel)) ?_
  refine x_top (M := M_X12_add) (y := (Int32.ofInt 0)) (by decide +kernel) ?_
  refine x_ineg (M := M_X12_add) dX12_add_19 ?_
  refine x_goto (M := M_X12_add) (tgt := 29) dX12_add_20 (by decide) ?_
  refine x_top (M := M_X12_add) (y := (Int32.ofInt 0)) (by decide +kernel) ?_
  refine x_istore (M := M_X12_add) dX12_add_29 (Nat.le_of_ble_eq_true rfl) rfl ?_
  refine x_iload (M := M_X12_add) dX12_add_31 rfl ?_
  refine x_if_eq (M := M_X12_add) (tgt := 48) dX12_add_33 (by decide) (fun _ => ?_) (fun q => absurd q (by decide +kernel))
  refine x_aload_n (M := M_X12_add) dX12_add_48 rfl ?_
  refine x_iload_n (M := M_X12_add) dX12_add_49 rfl ?_
  refine x_iload_n (M := M_X12_add) dX12_add_50 rfl ?_
  refine x_iload_n (M := M_X12_add) dX12_add_51 rfl ?_
  refine y_callVR (M := M_X12_add) (M' := M_X12_addSizes) rfl rfl dX12_add_52 m_X12_addSizes t_3178 t_3180 s_215 (q9878 hl o9863 o9879 o9880) rfl rfl o9863 rfl (Nat.le_of_ble_eq_true rfl) (Nat.le_of_ble_eq_true rfl) (Nat.le_of_ble_eq_true rfl) (Nat.le_of_ble_eq_true rfl) (fun h9881 f9882 w9883 => ?_)
  obtain ⟨o9884, o9885, -⟩ := w9883
  refine x_aload_n (M := M_X12_add) dX12_add_55 rfl ?_
  have o9886 := (f9882 277 _ (by decide) o9863)
  refine x_getf (M := M_X12_add) (ci := 15) (C := RX12) (T := TX12) (N := 135) (ty := tyX12) cl15 dX12_add_56 o9886 38 (by decide) t_2429 (v := .ref 296) rfl ?_
  refine x_iload_n (M := M_X12_add) dX12_add_59 rfl ?_
  refine x_iload (M := M_X12_add) dX12_add_60 rfl ?_
  refine x_if_ne (M := M_X12_add) (tgt := 70) dX12_add_62 (by decide) (fun q => absurd q (by decide +kernel)) (fun _ => ?_)
  refine x_iload (M := M_X12_add) dX12_add_65 rfl ?_
  refine x_goto (M := M_X12_add) (tgt := 72) dX12_add_67 (by decide) ?_
  have o9887 := (f9882 296 _ (by decide) o9864)
  refine y_iast (M := M_X12_add) (k := 6) dX12_add_72 o9887 (vp_inD (by decide +kernel)) (by decide +kernel) (fun h9888 w9889 f9890 => ?_)
  have w9891 : ob h9888 296 = some (.inl (0, 20, .inl (fun _ => 0))) := by rw [w9889, up_z (k := 6)]
  refine x_goto (M := M_X12_add) (tgt := 118) dX12_add_73 (by decide) ?_
  refine x_aload_n (M := M_X12_add) dX12_add_118 rfl ?_
  refine x_iload_n (M := M_X12_add) dX12_add_119 rfl ?_
  have o9892 := (f9890 277 _ (by decide) o9886)
  have o9893 := (f9890 295 _ (by decide) o9885)
  have o9894 := (f9890 294 _ (by decide) o9884)
  refine y_callVR (M := M_X12_add) (M' := M_X12_trim) rfl rfl dX12_add_120 m_X12_trim t_3170 t_3172 s_213 (q8096 hl o9892 o9893 o9894 w9891) rfl rfl o9892 rfl (Nat.le_of_ble_eq_true rfl) (Nat.le_of_ble_eq_true rfl) (Nat.le_of_ble_eq_true rfl) (Nat.le_of_ble_eq_true rfl) (fun h9895 f9896 w9897 => ?_)
  obtain ⟨o9898, o9899, -⟩ := w9897
  have o9900 := (f9896 294 _ (by decide) o9894)
  exact x_vret (M := M_X12_add) dX12_add_123 rfl ⟨rfl, (fr_tr f9896 (by decide) (fr_tr f9890 (by decide) (fr_tr f9882 (by decide) fr_rf))), ⟨o9900, o9898, o9899, trivial⟩⟩ (Nat.le_of_ble_eq_true rfl) (Nat.le_of_ble_eq_true rfl)
set_option maxRecDepth 10000 in
theorem q9909 {l : Launch} {E : EE} (hl : l.stackTraces = false) {h : HP} {a2 : Int32} {a3 : Int32} {dg : Int32} (c0 : ¬ (a2.toInt < 0)) (c1 : a2.toInt < 32) (c2 : ¬ (a3.toInt < 0)) (c3 : a3.toInt < 32) (o9844 : ob h 277 = some (.inr (15, ((RB dg).set 0 (.int (Int32.ofInt 0)))))) (o9845 : ob h 297 = some (.inl (1, 32, .inr (.inl (fun _ => 0))))) (o9846 : ob h 294 = some (.inl (1, 6000, .inr (.inl (fun _ => 0))))) (o9847 : ob h 295 = some (.inl (0, 20, .inl (fun _ => 0)))) (o9848 : ob h 296 = some (.inl (0, 20, .inl (fun _ => 0)))) : en_C l E M_X12_between 3 0 0 [.ref 277, .int (Int32.ofInt 6), .int (Int32.ofInt 1), .int a2, .int a3] h (pF none [294, 295, 296] h (fun h' => ob h' 294 = some (.inl (1, 6000, .inr (.inl (fun _ => 0)))) ∧ ob h' 295 = some (.inl (0, 20, .inl (fun _ => 0))) ∧ ob h' 296 = some (.inl (0, 20, .inl (fun _ => 0))) ∧ True)) := by
  refine en_mk m_X12_between rfl hl (Nat.le_of_ble_eq_true rfl) ?_
  refine x_aload_n (M := M_X12_between) dX12_between_0 rfl ?_
  refine x_bipush (M := M_X12_between) dX12_between_1 ?_
  refine x_iload_n (M := M_X12_between) dX12_between_3 rfl ?_
  refine x_if_eq (M := M_X12_between) (tgt := 16) dX12_between_4 (by decide) (fun q => absurd q (by decide +kernel)) (fun _ => ?_)
  refine x_aload_n (M := M_X12_between) dX12_between_7 rfl ?_
  refine x_getf (M := M_X12_between) (ci := 15) (C := RX12) (T := TX12) (N := 135) (ty := tyX12) cl15 dX12_between_8 o9844 39 (by decide) t_2430 (v := .ref 297) rfl ?_
  refine x_iload_n (M := M_X12_between) dX12_between_11 rfl ?_
  refine x_lald (M := M_X12_between) dX12_between_12 o9845 (vp_in_s (by omega) (by omega)) ?_
  refine x_topl (M := M_X12_between) (y := (Int64.ofInt 0)) rfl ?_
  refine x_goto (M := M_X12_between) (tgt := 22) dX12_between_13 (by decide) ?_
  refine x_norm (M := M_X12_between) (st' := [.long (Int64.ofInt 0), .int (Int32.ofInt 18), .ref 277]) rfl (v_cons (vi_cons (by decide +kernel : ((Int8.ofInt 18).toInt32) = (Int32.ofInt 18)) rfl)) rfl rfl rfl ?_
  refine y_callVR (M := M_X12_between) (M' := M_X12_load) rfl rfl dX12_between_22 m_X12_load t_3165 t_3167 s_212 (q7538 hl o9844 o9846 o9847 o9848) rfl rfl o9844 rfl (Nat.le_of_ble_eq_true rfl) (Nat.le_of_ble_eq_true rfl) (Nat.le_of_ble_eq_true rfl) (Nat.le_of_ble_eq_true rfl) (fun h9849 f9850 w9851 => ?_)
  obtain ⟨o9852, o9853, o9854, -⟩ := w9851
  refine x_aload_n (M := M_X12_between) dX12_between_25 rfl ?_
  refine x_bipush (M := M_X12_between) dX12_between_26 ?_
  refine x_iload_n (M := M_X12_between) dX12_between_28 rfl ?_
  refine x_if_eq (M := M_X12_between) (tgt := 42) dX12_between_29 (by decide) (fun q => absurd q (by decide +kernel)) (fun _ => ?_)
  refine x_aload_n (M := M_X12_between) dX12_between_32 rfl ?_
  have o9855 := (f9850 277 _ (by decide) o9844)
  refine x_getf (M := M_X12_between) (ci := 15) (C := RX12) (T := TX12) (N := 135) (ty := tyX12) cl15 dX12_between_33 o9855 39 (by decide) t_2430 (v := .ref 297) rfl ?_
  refine x_iload (M := M_X12_between) dX12_between_36 rfl ?_
  have o9856 := (f9850 297 _ (by decide) o9845)
  refine x_lald (M := M_X12_between) dX12_between_38 o9856 (vp_in_s (by omega) (by omega)) ?_
  refine x_topl (M := M_X12_between) (y := (Int64.ofInt 0)) rfl ?_
  refine x_goto (M := M_X12_between) (tgt := 49) dX12_between_39 (by decide) ?_
  refine x_norm (M := M_X12_between) (st' := [.long (Int64.ofInt 0), .int (Int32.ofInt 19), .ref 277]) rfl (v_cons (vi_cons (by decide +kernel : ((Int8.ofInt 19).toInt32) = (Int32.ofInt 19)) rfl)) rfl rfl rfl ?_
  refine y_callVR (M := M_X12_between) (M' := M_X12_load) rfl rfl dX12_between_49 m_X12_load t_3165 t_3167 s_212 (q7615 hl o9855 o9852 o9853 o9854) rfl rfl o9855 rfl (Nat.le_of_ble_eq_true rfl) (Nat.le_of_ble_eq_true rfl) (Nat.le_of_ble_eq_true rfl) (Nat.le_of_ble_eq_true rfl) (fun h9857 f9858 w9859 => ?_)
  obtain ⟨o9860, o9861, o9862, -⟩ := w9859
  refine x_aload_n (M := M_X12_between) dX12_between_52 rfl ?_
  refine x_iload_n (M := M_X12_between) dX12_between_53 rfl ?_
  refine x_bipush (M := M_X12_between) dX12_between_54 ?_
  refine x_bipush (M := M_X12_between) dX12_between_56 ?_
  refine x_iconst (M := M_X12_between) dX12_between_58 ?_
  refine x_norm (M := M_X12_between) (st' := [.int (Int32.ofInt 1), .int (Int32.ofInt 19), .int (Int32.ofInt 18), .int (Int32.ofInt 6), .ref 277]) rfl (v_cons (vi_cons (by decide +kernel : ((Int8.ofInt 19).toInt32) = (Int32.ofInt 19)) (vi_cons (by decide +kernel : ((Int8.ofInt 18).toInt32) = (Int32.ofInt 18)) rfl))) rfl rfl rfl ?_
  have o9902 := (f9858 277 _ (by decide) o9855)
  refine y_callVR (M := M_X12_between) (M' := M_X12_add) rfl rfl dX12_between_59 m_X12_add t_3174 t_3176 s_214 (q9901 hl o9902 o9862 o9861 o9860) rfl rfl o9902 rfl (Nat.le_of_ble_eq_true rfl) (Nat.le_of_ble_eq_true rfl) (Nat.le_of_ble_eq_true rfl) (Nat.le_of_ble_eq_true rfl) (fun h9903 f9904 w9905 => ?_)
  obtain ⟨o9906, o9907, o9908, -⟩ := w9905
  exact x_vret (M := M_X12_between) dX12_between_62 rfl ⟨rfl, (fr_tr f9904 (by decide) (fr_tr f9858 (by decide) (fr_tr f9850 (by decide) fr_rf))), ⟨o9906, o9907, o9908, trivial⟩⟩ (Nat.le_of_ble_eq_true rfl) (Nat.le_of_ble_eq_true rfl)
set_option maxRecDepth 10000 in
theorem q9952 {l : Launch} {E : EE} (hl : l.stackTraces = false) {h : HP} {dg : Int32} (o9939 : ob h 277 = some (.inr (15, ((RB dg).set 0 (.int (Int32.ofInt 0)))))) (o9940 : ob h 295 = some (.inl (0, 20, .inl (fun _ => 0)))) (o9941 : ob h 294 = some (.inl (1, 6000, .inr (.inl (fun _ => 0))))) : en_C l E M_X12_addSizes 1 0 0 [.ref 277, .int (Int32.ofInt 7), .int (Int32.ofInt 18), .int (Int32.ofInt 19)] h (pF none [294, 295] h (fun h' => ob h' 294 = some (.inl (1, 6000, .inr (.inl (fun _ => 0)))) ∧ ob h' 295 = some (.inl (0, 20, .inl (upd (fun _ => 0) 7 (Int32.ofInt 1)))) ∧ True)) := by
  refine en_mk m_X12_addSizes rfl hl (Nat.le_of_ble_eq_true rfl) ?_
  refine x_aload_n (M := M_X12_addSizes) dX12_addSizes_0 rfl ?_
  refine x_getf (M := M_X12_addSizes) (ci := 15) (C := RX12) (T := TX12) (N := 135) (ty := tyX12) cl15 dX12_addSizes_1 o9939 37 (by decide) t_2428 (v := .ref 295) rfl ?_
  refine x_iload_n (M := M_X12_addSizes) dX12_addSizes_4 rfl ?_
  refine x_iald (M := M_X12_addSizes) dX12_addSizes_5 o9940 (vp_inD (by decide +kernel)) ?_
  refine x_top (M := M_X12_addSizes) (y := (Int32.ofInt 0)) (by decide +kernel) ?_
  refine x_aload_n (M := M_X12_addSizes) dX12_addSizes_6 rfl ?_
  refine x_getf (M := M_X12_addSizes) (ci := 15) (C := RX12) (T := TX12) (N := 135) (ty := tyX12) cl15 dX12_addSizes_7 o9939 37 (by decide) t_2428 (v := .ref 295) rfl ?_
  refine x_iload_n (M := M_X12_addSizes) dX12_addSizes_10 rfl ?_
  refine x_iald (M := M_X12_addSizes) dX12_addSizes_11 o9940 (vp_inD (by decide +kernel)) ?_
  refine x_top (M := M_X12_addSizes) (y := (Int32.ofInt 0)) (by decide +kernel) ?_
  refine x_icmp_le (M := M_X12_addSizes) (tgt := 24) dX12_addSizes_12 (by decide) (fun _ => ?_) (fun q => absurd q (by decide +kernel))
  refine x_aload_n (M := M_X12_addSizes) dX12_addSizes_24 rfl ?_
  refine x_getf (M := M_X12_addSizes) (ci := 15) (C := RX12) (T := TX12) (N := 135) (ty := tyX12) cl15 dX12_addSizes_25 o9939 37 (by decide) t_2428 (v := .ref 295) rfl ?_
  refine x_iload_n (M := M_X12_addSizes) dX12_addSizes_28 rfl ?_
  refine x_iald (M := M_X12_addSizes) dX12_addSizes_29 o9940 (vp_inD (by decide +kernel)) ?_
  refine x_top (M := M_X12_addSizes) (y := (Int32.ofInt 0)) (by decide +kernel) ?_
  refine x_iconst (M := M_X12_addSizes) dX12_addSizes_30 ?_
  refine x_iadd (M := M_X12_addSizes) dX12_addSizes_31 ?_
  refine x_top (M := M_X12_addSizes) (y := (Int32.ofInt 1)) (by decide +kernel) ?_
  refine x_istore (M := M_X12_addSizes) dX12_addSizes_32 (Nat.le_of_ble_eq_true rfl) rfl ?_
  refine x_lconst (M := M_X12_addSizes) dX12_addSizes_34 ?_
  refine x_topl (M := M_X12_addSizes) (y := (Int64.ofInt 0)) (by decide +kernel) ?_
  refine x_lstore (M := M_X12_addSizes) dX12_addSizes_35 (Nat.le_of_ble_eq_true rfl) rfl ?_
  refine x_iconst (M := M_X12_addSizes) dX12_addSizes_37 ?_
  refine x_istore (M := M_X12_addSizes) dX12_addSizes_38 (Nat.le_of_ble_eq_true rfl) rfl ?_
  refine x_iload (M := M_X12_addSizes) dX12_addSizes_40 rfl ?_
  refine x_iload (M := M_X12_addSizes) dX12_addSizes_42 rfl ?_
  refine x_icmp_ge (M := M_X12_addSizes) (tgt := 99) dX12_addSizes_44 (by decide) (fun q => absurd q (by decide +kernel)) (fun _ => ?_)
  refine x_lload (M := M_X12_addSizes) dX12_addSizes_47 rfl ?_
  refine x_aload_n (M := M_X12_addSizes) dX12_addSizes_49 rfl ?_
  refine x_iload_n (M := M_X12_addSizes) dX12_addSizes_50 rfl ?_
  refine x_iload (M := M_X12_addSizes) dX12_addSizes_51 rfl ?_
  refine x_callVR (M := M_X12_addSizes) (M' := M_X12_limb) rfl rfl dX12_addSizes_53 m_X12_limb t_3182 t_3184 s_216 (q7628 hl o9939 o9940) rfl rfl o9939 rfl (Nat.le_of_ble_eq_true rfl) (Nat.le_of_ble_eq_true rfl) (Nat.le_of_ble_eq_true rfl) (Nat.le_of_ble_eq_true rfl) ?_
  refine x_aload_n (M := M_X12_addSizes) dX12_addSizes_56 rfl ?_
  refine x_iload_n (M := M_X12_addSizes) dX12_addSizes_57 rfl ?_
  refine x_iload (M := M_X12_addSizes) dX12_addSizes_58 rfl ?_
  refine x_callVR (M := M_X12_addSizes) (M' := M_X12_limb) rfl rfl dX12_addSizes_60 m_X12_limb t_3182 t_3184 s_216 (q7631 hl o9939 o9940) rfl rfl o9939 rfl (Nat.le_of_ble_eq_true rfl) (Nat.le_of_ble_eq_true rfl) (Nat.le_of_ble_eq_true rfl) (Nat.le_of_ble_eq_true rfl) ?_
  refine x_ladd (M := M_X12_addSizes) dX12_addSizes_63 ?_
  refine x_ladd (M := M_X12_addSizes) dX12_addSizes_64 ?_
  refine x_topl (M := M_X12_addSizes) (y := (Int64.ofInt 0)) (by decide +kernel) ?_
  refine x_lstore (M := M_X12_addSizes) dX12_addSizes_65 (Nat.le_of_ble_eq_true rfl) rfl ?_
  refine x_aload_n (M := M_X12_addSizes) dX12_addSizes_67 rfl ?_
  refine x_getf (M := M_X12_addSizes) (ci := 15) (C := RX12) (T := TX12) (N := 135) (ty := tyX12) cl15 dX12_addSizes_68 o9939 36 (by decide) t_2427 (v := .ref 294) rfl ?_
  refine x_sipush (M := M_X12_addSizes) dX12_addSizes_71 ?_
  refine x_iload_n (M := M_X12_addSizes) dX12_addSizes_74 rfl ?_
  refine x_imul (M := M_X12_addSizes) dX12_addSizes_75 ?_
  refine x_iload (M := M_X12_addSizes) dX12_addSizes_76 rfl ?_
  refine x_iadd (M := M_X12_addSizes) dX12_addSizes_78 ?_
  refine x_lload (M := M_X12_addSizes) dX12_addSizes_79 rfl ?_
  refine x_ldc2 (M := M_X12_addSizes) dX12_addSizes_81 t_3169 ?_
  refine x_land (M := M_X12_addSizes) dX12_addSizes_84 ?_
  refine x_norm (M := M_X12_addSizes) (st' := [.long (Int64.ofInt 0), .int (Int32.ofInt 2100), .ref 294]) rfl (vj_cons (by decide +kernel : ((Int64.ofInt 0) &&& (4294967295 : Int64)) = (Int64.ofInt 0)) (vi_cons (by decide +kernel : ((((Int16.ofInt 300).toInt32) * (Int32.ofInt 7)) + (Int32.ofInt 0)) = (Int32.ofInt 2100)) rfl)) rfl rfl rfl ?_
  refine y_last (M := M_X12_addSizes) (k := 2100) dX12_addSizes_85 o9941 (vp_inD (by decide +kernel)) (by decide +kernel) (fun h9942 w9943 f9944 => ?_)
  have w9945 : ob h9942 294 = some (.inl (1, 6000, .inr (.inl (fun _ => 0)))) := by rw [w9943, uq_z (k := 2100)]
  refine x_lload (M := M_X12_addSizes) dX12_addSizes_86 rfl ?_
  refine x_bipush (M := M_X12_addSizes) dX12_addSizes_88 ?_
  refine x_lushr (M := M_X12_addSizes) dX12_addSizes_90 ?_
  refine x_topl (M := M_X12_addSizes) (y := (Int64.ofInt 0)) (by decide +kernel) ?_
  refine x_lstore (M := M_X12_addSizes) dX12_addSizes_91 (Nat.le_of_ble_eq_true rfl) rfl ?_
  refine x_lvs (M := M_X12_addSizes) (lv' := [some (.ref 277), some (.int (Int32.ofInt 7)), some (.int (Int32.ofInt 18)), some (.int (Int32.ofInt 19)), some (.int (Int32.ofInt 1)), some (.long (Int64.ofInt 0)), none, some (.int (Int32.ofInt 0))]) rfl ?_
  refine x_iinc (M := M_X12_addSizes) dX12_addSizes_93 rfl (Nat.le_of_ble_eq_true rfl) rfl ?_
  refine x_lvs (M := M_X12_addSizes) (lv' := [some (.ref 277), some (.int (Int32.ofInt 7)), some (.int (Int32.ofInt 18)), some (.int (Int32.ofInt 19)), some (.int (Int32.ofInt 1)), some (.long (Int64.ofInt 0)), none, some (.int (Int32.ofInt 1))]) (by rw [(by decide +kernel : (Int32.ofInt 0) + Int32.ofInt 1 = (Int32.ofInt 1))] <;> rfl) ?_
  refine x_goto (M := M_X12_addSizes) (tgt := 40) dX12_addSizes_96 (by decide) ?_
  refine x_iload (M := M_X12_addSizes) dX12_addSizes_40 rfl ?_
  refine x_iload (M := M_X12_addSizes) dX12_addSizes_42 rfl ?_
  refine x_icmp_ge (M := M_X12_addSizes) (tgt := 99) dX12_addSizes_44 (by decide) (fun _ => ?_) (fun q => absurd q (by decide +kernel))
  refine x_aload_n (M := M_X12_addSizes) dX12_addSizes_99 rfl ?_
  have o9946 := (f9944 277 _ (by decide) o9939)
  refine x_getf (M := M_X12_addSizes) (ci := 15) (C := RX12) (T := TX12) (N := 135) (ty := tyX12) cl15 dX12_addSizes_100 o9946 37 (by decide) t_2428 (v := .ref 295) rfl ?_
  refine x_iload_n (M := M_X12_addSizes) dX12_addSizes_103 rfl ?_
  refine x_iload (M := M_X12_addSizes) dX12_addSizes_104 rfl ?_
  have o9947 := (f9944 295 _ (by decide) o9940)
  refine y_iast (M := M_X12_addSizes) (k := 7) dX12_addSizes_106 o9947 (vp_inD (by decide +kernel)) (by decide +kernel) (fun h9948 w9949 f9950 => ?_)
  have o9951 := (f9950 294 _ (by decide) w9945)
  exact x_vret (M := M_X12_addSizes) dX12_addSizes_107 rfl ⟨rfl, (fr_tr f9950 (by decide) (fr_tr f9944 (by decide) fr_rf)), ⟨o9951, w9949, trivial⟩⟩ (Nat.le_of_ble_eq_true rfl) (Nat.le_of_ble_eq_true rfl)
set_option maxRecDepth 10000 in
theorem q9981 {l : Launch} {E : EE} (hl : l.stackTraces = false) {h : HP} {dg : Int32} (o9966 : ob h 277 = some (.inr (15, ((RB dg).set 0 (.int (Int32.ofInt 0)))))) (o9967 : ob h 295 = some (.inl (0, 20, .inl (upd (fun _ => 0) 7 (Int32.ofInt 1))))) (o9968 : ob h 294 = some (.inl (1, 6000, .inr (.inl (fun _ => 0))))) (o9974 : ob h 296 = some (.inl (0, 20, .inl (fun _ => 0)))) : en_C l E M_X12_trim 0 0 0 [.ref 277, .int (Int32.ofInt 7)] h (pF none [295, 296] h (fun h' => ob h' 295 = some (.inl (0, 20, .inl (fun _ => 0))) ∧ ob h' 296 = some (.inl (0, 20, .inl (fun _ => 0))) ∧ True)) := by
  refine en_mk m_X12_trim rfl hl (Nat.le_of_ble_eq_true rfl) ?_
  refine x_aload_n (M := M_X12_trim) dX12_trim_0 rfl ?_
  refine x_getf (M := M_X12_trim) (ci := 15) (C := RX12) (T := TX12) (N := 135) (ty := tyX12) cl15 dX12_trim_1 o9966 37 (by decide) t_2428 (v := .ref 295) rfl ?_
  refine x_iload_n (M := M_X12_trim) dX12_trim_4 rfl ?_
  refine x_iald (M := M_X12_trim) dX12_trim_5 o9967 (vp_inD (by decide +kernel)) ?_
  refine x_top (M := M_X12_trim) (y := (Int32.ofInt 1)) (by decide +kernel) ?_
  refine x_if_le (M := M_X12_trim) (tgt := 46) dX12_trim_6 (by decide) (fun q => absurd q (by decide +kernel)) (fun _ => ?_)
  refine x_aload_n (M := M_X12_trim) dX12_trim_9 rfl ?_
  refine x_getf (M := M_X12_trim) (ci := 15) (C := RX12) (T := TX12) (N := 135) (ty := tyX12) cl15 dX12_trim_10 o9966 36 (by decide) t_2427 (v := .ref 294) rfl ?_
  refine x_sipush (M := M_X12_trim) dX12_trim_13 ?_
  refine x_iload_n (M := M_X12_trim) dX12_trim_16 rfl ?_
  refine x_imul (M := M_X12_trim) dX12_trim_17 ?_
  refine x_aload_n (M := M_X12_trim) dX12_trim_18 rfl ?_
  refine x_getf (M := M_X12_trim) (ci := 15) (C := RX12) (T := TX12) (N := 135) (ty := tyX12) cl15 dX12_trim_19 o9966 37 (by decide) t_2428 (v := .ref 295) rfl ?_
  refine x_iload_n (M := M_X12_trim) dX12_trim_22 rfl ?_
  refine x_iald (M := M_X12_trim) dX12_trim_23 o9967 (vp_inD (by decide +kernel)) ?_
  refine x_top (M := M_X12_trim) (y := (Int32.ofInt 1)) (by decide +kernel) ?_
  refine x_iadd (M := M_X12_trim) dX12_trim_24 ?_
  refine x_iconst (M := M_X12_trim) dX12_trim_25 ?_
  refine x_isub (M := M_X12_trim) dX12_trim_26 ?_
  refine x_lald (M := M_X12_trim) dX12_trim_27 o9968 (vp_inD (by decide +kernel)) ?_
  refine x_topl (M := M_X12_trim) (y := (Int64.ofInt 0)) (by decide +kernel) ?_
  refine x_lconst (M := M_X12_trim) dX12_trim_28 ?_
  refine x_lcmp (M := M_X12_trim) dX12_trim_29 ?_
  refine x_if_ne (M := M_X12_trim) (tgt := 46) dX12_trim_30 (by decide) (fun q => absurd q (by decide +kernel)) (fun _ => ?_)
  refine x_aload_n (M := M_X12_trim) dX12_trim_33 rfl ?_
  refine x_getf (M := M_X12_trim) (ci := 15) (C := RX12) (T := TX12) (N := 135) (ty := tyX12) cl15 dX12_trim_34 o9966 37 (by decide) t_2428 (v := .ref 295) rfl ?_
  refine x_iload_n (M := M_X12_trim) dX12_trim_37 rfl ?_
  refine x_dup2 (M := M_X12_trim) dX12_trim_38 rfl rfl ?_
  refine x_iald (M := M_X12_trim) dX12_trim_39 o9967 (vp_inD (by decide +kernel)) ?_
  refine x_top (M := M_X12_trim) (y := (Int32.ofInt 1)) (by decide +kernel) ?_
  refine x_iconst (M := M_X12_trim) dX12_trim_40 ?_
  refine x_isub (M := M_X12_trim) dX12_trim_41 ?_
  refine x_norm (M := M_X12_trim) (st' := [.int (Int32.ofInt 0), .int (Int32.ofInt 7), .ref 295]) rfl (vi_cons (by decide +kernel : ((Int32.ofInt 1) - (Int32.ofInt 1)) = (Int32.ofInt 0)) rfl) rfl rfl rfl ?_
  refine y_iast (M := M_X12_trim) (k := 7) dX12_trim_42 o9967 (vp_inD (by decide +kernel)) (by decide +kernel) (fun h9969 w9970 f9971 => ?_)
  have w9972 : ob h9969 295 = some (.inl (0, 20, .inl (fun _ => 0))) := by rw [w9970, up_up (k := 7), up_z (k := 7)]
  refine x_goto (M := M_X12_trim) (tgt := 0) dX12_trim_43 (by decide) ?_
  refine x_aload_n (M := M_X12_trim) dX12_trim_0 rfl ?_
  have o9973 := (f9971 277 _ (by decide) o9966)
  refine x_getf (M := M_X12_trim) (ci := 15) (C := RX12) (T := TX12) (N := 135) (ty := tyX12) cl15 dX12_trim_1 o9973 37 (by decide) t_2428 (v := .ref 295) rfl ?_
  refine x_iload_n (M := M_X12_trim) dX12_trim_4 rfl ?_
  refine x_iald (M := M_X12_trim) dX12_trim_5 w9972 (vp_inD (by decide +kernel)) ?_
  refine x_top (M := M_X12_trim) (y := (Int32.ofInt 0)) (by decide +kernel) ?_
  refine x_if_le (M := M_X12_trim) (tgt := 46) dX12_trim_6 (by decide) (fun _ => ?_) (fun q => absurd q (by decide +kernel))
  refine x_aload_n (M := M_X12_trim) dX12_trim_46 rfl ?_
  refine x_getf (M := M_X12_trim) (ci := 15) (C := RX12) (T := TX12) (N := 135) (ty := tyX12) cl15 dX12_trim_47 o9973 37 (by decide) t_2428 (v := .ref 295) rfl ?_
  refine x_iload_n (M := M_X12_trim) dX12_trim_50 rfl ?_
  refine x_iald (M := M_X12_trim) dX12_trim_51 w9972 (vp_inD (by decide +kernel)) ?_
  refine x_top (M := M_X12_trim) (y := (Int32.ofInt 0)) (by decide +kernel) ?_
  refine x_if_ne (M := M_X12_trim) (tgt := 62) dX12_trim_52 (by decide) (fun q => absurd q (by decide +kernel)) (fun _ => ?_)
  refine x_aload_n (M := M_X12_trim) dX12_trim_55 rfl ?_
  refine x_getf (M := M_X12_trim) (ci := 15) (C := RX12) (T := TX12) (N := 135) (ty := tyX12) cl15 dX12_trim_56 o9973 38 (by decide) t_2429 (v := .ref 296) rfl ?_
  refine x_iload_n (M := M_X12_trim) dX12_trim_59 rfl ?_
  refine x_iconst (M := M_X12_trim) dX12_trim_60 ?_
  have o9975 := (f9971 296 _ (by decide) o9974)
  refine y_iast (M := M_X12_trim) (k := 7) dX12_trim_61 o9975 (vp_inD (by decide +kernel)) (by decide +kernel) (fun h9976 w9977 f9978 => ?_)
  have w9979 : ob h9976 296 = some (.inl (0, 20, .inl (fun _ => 0))) := by rw [w9977, up_z (k := 7)]
  have o9980 := (f9978 295 _ (by decide) w9972)
  exact x_vret (M := M_X12_trim) dX12_trim_62 rfl ⟨rfl, (fr_tr f9978 (by decide) (fr_tr f9971 (by decide) fr_rf)), ⟨o9980, w9979, trivial⟩⟩ (Nat.le_of_ble_eq_true rfl) (Nat.le_of_ble_eq_true rfl)
set_option maxRecDepth 10000 in
theorem q9991 {l : Launch} {E : EE} (hl : l.stackTraces = false) {h : HP} {dg : Int32} (o9937 : ob h 277 = some (.inr (15, ((RB dg).set 0 (.int (Int32.ofInt 0)))))) (o9938 : ob h 296 = some (.inl (0, 20, .inl (fun _ => 0)))) (o9953 : ob h 295 = some (.inl (0, 20, .inl (fun _ => 0)))) (o9954 : ob h 294 = some (.inl (1, 6000, .inr (.inl (fun _ => 0))))) : en_C l E M_X12_add 2 0 0 [.ref 277, .int (Int32.ofInt 7), .int (Int32.ofInt 18), .int (Int32.ofInt 19), .int (Int32.ofInt 1)] h (pF none [294, 295, 296] h (fun h' => ob h' 294 = some (.inl (1, 6000, .inr (.inl (fun _ => 0)))) ∧ ob h' 295 = some (.inl (0, 20, .inl (fun _ => 0))) ∧ ob h' 296 = some (.inl (0, 20, .inl (fun _ => 0))) ∧ True)) := by
  refine en_mk m_X12_add rfl hl (Nat.le_of_ble_eq_true rfl) ?_
  refine x_aload_n (M := M_X12_add) dX12_add_0 rfl ?_
  refine x_getf (M := M_X12_add) (ci := 15) (C := RX12) (T := TX12) (N := 135) (ty := tyX12) cl15 dX12_add_1 o9937 38 (by decide) t_2429 (v := .ref 296) rfl ?_
  refine x_iload_n (M := M_X12_add) dX12_add_4 rfl ?_
  refine x_iald (M := M_X12_add) dX12_add_5 o9938 (vp_inD (by decide +kernel)) ?_
  refine x_top (M := M_X12_add) (y := (Int32.ofInt 0)) (by decide +kernel) ?_
  refine x_istore (M := M_X12_add) dX12_add_6 (Nat.le_of_ble_eq_true rfl) rfl ?_
  refine x_iload (M := M_X12_add) dX12_add_8 rfl ?_
  refine x_if_eq (M := M_X12_add) (tgt := 23) dX12_add_10 (by decide) (fun q => absurd q (by decide +kernel)) (fun _ => ?_)
  refine x_aload_n (M := M_X12_add) dX12_add_13 rfl ?_
  refine x_getf (M := M_X12_add) (ci := 15) (C := RX12) (T := TX12) (N := 135) (ty := tyX12) cl15 dX12_add_14 o9937 38 (by decide) t_2429 (v := .ref 296) rfl ?_
  refine x_iload_n (M := M_X12_add) dX12_add_17 rfl ?_
  refine x_iald (M := M_X12_add) dX12_add_18 o9938 (vp_inD (by decide +kernel)) ?_
  refine x_top (M := M_X12_add) (y := (Int32.ofInt 0)) (by decide +kernel) ?_
  refine x_ineg (M := M_X12_add) dX12_add_19 ?_
  refine x_goto (M := M_X12_add) (tgt := 29) dX12_add_20 (by decide) ?_
  refine x_top (M := M_X12_add) (y := (Int32.ofInt 0)) (by decide +kernel) ?_
  refine x_istore (M := M_X12_add) dX12_add_29 (Nat.le_of_ble_eq_true rfl) rfl ?_
  refine x_iload (M := M_X12_add) dX12_add_31 rfl ?_
  refine x_if_eq (M := M_X12_add) (tgt := 48) dX12_add_33 (by decide) (fun _ => ?_) (fun q => absurd q (by decide +kernel))
  refine x_aload_n (M := M_X12_add) dX12_add_48 rfl ?_
  refine x_iload_n (M := M_X12_add) dX12_add_49 rfl ?_
  refine x_iload_n (M := M_X12_add) dX12_add_50 rfl ?_
  refine x_iload_n (M := M_X12_add) dX12_add_51 rfl ?_
  refine y_callVR (M := M_X12_add) (M' := M_X12_addSizes) rfl rfl dX12_add_52 m_X12_addSizes t_3178 t_3180 s_215 (q9952 hl o9937 o9953 o9954) rfl rfl o9937 rfl (Nat.le_of_ble_eq_true rfl) (Nat.le_of_ble_eq_true rfl) (Nat.le_of_ble_eq_true rfl) (Nat.le_of_ble_eq_true rfl) (fun h9955 f9956 w9957 => ?_)
  obtain ⟨o9958, o9959, -⟩ := w9957
  refine x_aload_n (M := M_X12_add) dX12_add_55 rfl ?_
  have o9960 := (f9956 277 _ (by decide) o9937)
  refine x_getf (M := M_X12_add) (ci := 15) (C := RX12) (T := TX12) (N := 135) (ty := tyX12) cl15 dX12_add_56 o9960 38 (by decide) t_2429 (v := .ref 296) rfl ?_
  refine x_iload_n (M := M_X12_add) dX12_add_59 rfl ?_
  refine x_iload (M := M_X12_add) dX12_add_60 rfl ?_
  refine x_if_ne (M := M_X12_add) (tgt := 70) dX12_add_62 (by decide) (fun q => absurd q (by decide +kernel)) (fun _ => ?_)
  refine x_iload (M := M_X12_add) dX12_add_65 rfl ?_
  refine x_goto (M := M_X12_add) (tgt := 72) dX12_add_67 (by decide) ?_
  have o9961 := (f9956 296 _ (by decide) o9938)
  refine y_iast (M := M_X12_add) (k := 7) dX12_add_72 o9961 (vp_inD (by decide +kernel)) (by decide +kernel) (fun h9962 w9963 f9964 => ?_)
  have w9965 : ob h9962 296 = some (.inl (0, 20, .inl (fun _ => 0))) := by rw [w9963, up_z (k := 7)]
  refine x_goto (M := M_X12_add) (tgt := 118) dX12_add_73 (by decide) ?_
  refine x_aload_n (M := M_X12_add) dX12_add_118 rfl ?_
  refine x_iload_n (M := M_X12_add) dX12_add_119 rfl ?_
  have o9982 := (f9964 277 _ (by decide) o9960)
  have o9983 := (f9964 295 _ (by decide) o9959)
  have o9984 := (f9964 294 _ (by decide) o9958)
  refine y_callVR (M := M_X12_add) (M' := M_X12_trim) rfl rfl dX12_add_120 m_X12_trim t_3170 t_3172 s_213 (q9981 hl o9982 o9983 o9984 w9965) rfl rfl o9982 rfl (Nat.le_of_ble_eq_true rfl) (Nat.le_of_ble_eq_true rfl) (Nat.le_of_ble_eq_true rfl) (Nat.le_of_ble_eq_true rfl) (fun h9985 f9986 w9987 => ?_)
  obtain ⟨o9988, o9989, -⟩ := w9987
  have o9990 := (f9986 294 _ (by decide) o9984)
  exact x_vret (M := M_X12_add) dX12_add_123 rfl ⟨rfl, (fr_tr f9986 (by decide) (fr_tr f9964 (by decide) (fr_tr f9956 (by decide) fr_rf))), ⟨o9990, o9988, o9989, trivial⟩⟩ (Nat.le_of_ble_eq_true rfl) (Nat.le_of_ble_eq_true rfl)
set_option maxRecDepth 10000 in
theorem q9999 {l : Launch} {E : EE} (hl : l.stackTraces = false) {h : HP} {a2 : Int32} {a3 : Int32} {dg : Int32} (c0 : ¬ (a2.toInt < 0)) (c1 : a2.toInt < 32) (c2 : ¬ (a3.toInt < 0)) (c3 : a3.toInt < 32) (o9918 : ob h 277 = some (.inr (15, ((RB dg).set 0 (.int (Int32.ofInt 0)))))) (o9919 : ob h 298 = some (.inl (1, 32, .inr (.inl (fun _ => 0))))) (o9920 : ob h 294 = some (.inl (1, 6000, .inr (.inl (fun _ => 0))))) (o9921 : ob h 295 = some (.inl (0, 20, .inl (fun _ => 0)))) (o9922 : ob h 296 = some (.inl (0, 20, .inl (fun _ => 0)))) : en_C l E M_X12_between 3 0 0 [.ref 277, .int (Int32.ofInt 7), .int (Int32.ofInt 0), .int a2, .int a3] h (pF none [294, 295, 296] h (fun h' => ob h' 294 = some (.inl (1, 6000, .inr (.inl (fun _ => 0)))) ∧ ob h' 295 = some (.inl (0, 20, .inl (fun _ => 0))) ∧ ob h' 296 = some (.inl (0, 20, .inl (fun _ => 0))) ∧ True)) := by
  refine en_mk m_X12_between rfl hl (Nat.le_of_ble_eq_true rfl) ?_
  refine x_aload_n (M := M_X12_between) dX12_between_0 rfl ?_
  refine x_bipush (M := M_X12_between) dX12_between_1 ?_
  refine x_iload_n (M := M_X12_between) dX12_between_3 rfl ?_
  refine x_if_eq (M := M_X12_between) (tgt := 16) dX12_between_4 (by decide) (fun _ => ?_) (fun q => absurd q (by decide +kernel))
  refine x_aload_n (M := M_X12_between) dX12_between_16 rfl ?_
  refine x_getf (M := M_X12_between) (ci := 15) (C := RX12) (T := TX12) (N := 135) (ty := tyX12) cl15 dX12_between_17 o9918 40 (by decide) t_2431 (v := .ref 298) rfl ?_
  refine x_iload_n (M := M_X12_between) dX12_between_20 rfl ?_
  refine x_lald (M := M_X12_between) dX12_between_21 o9919 (vp_in_s (by omega) (by omega)) ?_
  refine x_topl (M := M_X12_between) (y := (Int64.ofInt 0)) rfl ?_
  refine x_norm (M := M_X12_between) (st' := [.long (Int64.ofInt 0), .int (Int32.ofInt 18), .ref 277]) rfl (v_cons (vi_cons (by decide +kernel : ((Int8.ofInt 18).toInt32) = (Int32.ofInt 18)) rfl)) rfl rfl rfl ?_
  refine y_callVR (M := M_X12_between) (M' := M_X12_load) rfl rfl dX12_between_22 m_X12_load t_3165 t_3167 s_212 (q7538 hl o9918 o9920 o9921 o9922) rfl rfl o9918 rfl (Nat.le_of_ble_eq_true rfl) (Nat.le_of_ble_eq_true rfl) (Nat.le_of_ble_eq_true rfl) (Nat.le_of_ble_eq_true rfl) (fun h9923 f9924 w9925 => ?_)
  obtain ⟨o9926, o9927, o9928, -⟩ := w9925
  refine x_aload_n (M := M_X12_between) dX12_between_25 rfl ?_
  refine x_bipush (M := M_X12_between) dX12_between_26 ?_
  refine x_iload_n (M := M_X12_between) dX12_between_28 rfl ?_
  refine x_if_eq (M := M_X12_between) (tgt := 42) dX12_between_29 (by decide) (fun _ => ?_) (fun q => absurd q (by decide +kernel))
  refine x_aload_n (M := M_X12_between) dX12_between_42 rfl ?_
  have o9929 := (f9924 277 _ (by decide) o9918)
  refine x_getf (M := M_X12_between) (ci := 15) (C := RX12) (T := TX12) (N := 135) (ty := tyX12) cl15 dX12_between_43 o9929 40 (by decide) t_2431 (v := .ref 298) rfl ?_
  refine x_iload (M := M_X12_between) dX12_between_46 rfl ?_
  have o9930 := (f9924 298 _ (by decide) o9919)
  refine x_lald (M := M_X12_between) dX12_between_48 o9930 (vp_in_s (by omega) (by omega)) ?_
  refine x_topl (M := M_X12_between) (y := (Int64.ofInt 0)) rfl ?_
  refine x_norm (M := M_X12_between) (st' := [.long (Int64.ofInt 0), .int (Int32.ofInt 19), .ref 277]) rfl (v_cons (vi_cons (by decide +kernel : ((Int8.ofInt 19).toInt32) = (Int32.ofInt 19)) rfl)) rfl rfl rfl ?_
  refine y_callVR (M := M_X12_between) (M' := M_X12_load) rfl rfl dX12_between_49 m_X12_load t_3165 t_3167 s_212 (q7615 hl o9929 o9926 o9927 o9928) rfl rfl o9929 rfl (Nat.le_of_ble_eq_true rfl) (Nat.le_of_ble_eq_true rfl) (Nat.le_of_ble_eq_true rfl) (Nat.le_of_ble_eq_true rfl) (fun h9931 f9932 w9933 => ?_)
  obtain ⟨o9934, o9935, o9936, -⟩ := w9933
  refine x_aload_n (M := M_X12_between) dX12_between_52 rfl ?_
  refine x_iload_n (M := M_X12_between) dX12_between_53 rfl ?_
  refine x_bipush (M := M_X12_between) dX12_between_54 ?_
  refine x_bipush (M := M_X12_between) dX12_between_56 ?_
  refine x_iconst (M := M_X12_between) dX12_between_58 ?_
  refine x_norm (M := M_X12_between) (st' := [.int (Int32.ofInt 1), .int (Int32.ofInt 19), .int (Int32.ofInt 18), .int (Int32.ofInt 7), .ref 277]) rfl (v_cons (vi_cons (by decide +kernel : ((Int8.ofInt 19).toInt32) = (Int32.ofInt 19)) (vi_cons (by decide +kernel : ((Int8.ofInt 18).toInt32) = (Int32.ofInt 18)) rfl))) rfl rfl rfl ?_
  have o9992 := (f9932 277 _ (by decide) o9929)
  refine y_callVR (M := M_X12_between) (M' := M_X12_add) rfl rfl dX12_between_59 m_X12_add t_3174 t_3176 s_214 (q9991 hl o9992 o9936 o9935 o9934) rfl rfl o9992 rfl (Nat.le_of_ble_eq_true rfl) (Nat.le_of_ble_eq_true rfl) (Nat.le_of_ble_eq_true rfl) (Nat.le_of_ble_eq_true rfl) (fun h9993 f9994 w9995 => ?_)
  obtain ⟨o9996, o9997, o9998, -⟩ := w9995
  exact x_vret (M := M_X12_between) dX12_between_62 rfl ⟨rfl, (fr_tr f9994 (by decide) (fr_tr f9932 (by decide) (fr_tr f9924 (by decide) fr_rf))), ⟨o9996, o9997, o9998, trivial⟩⟩ (Nat.le_of_ble_eq_true rfl) (Nat.le_of_ble_eq_true rfl)
set_option maxRecDepth 10000 in
theorem q10028 {l : Launch} {E : EE} (hl : l.stackTraces = false) {h : HP} {dg : Int32} (o10021 : ob h 277 = some (.inr (15, ((RB dg).set 0 (.int (Int32.ofInt 0)))))) (o10022 : ob h 295 = some (.inl (0, 20, .inl (fun _ => 0)))) (o10023 : ob h 296 = some (.inl (0, 20, .inl (fun _ => 0)))) : en_C l E M_X12_trim 0 0 0 [.ref 277, .int (Int32.ofInt 9)] h (pF none [296] h (fun h' => ob h' 296 = some (.inl (0, 20, .inl (fun _ => 0))) ∧ True)) := by
  refine en_mk m_X12_trim rfl hl (Nat.le_of_ble_eq_true rfl) ?_
  refine x_aload_n (M := M_X12_trim) dX12_trim_0 rfl ?_
  refine x_getf (M := M_X12_trim) (ci := 15) (C := RX12) (T := TX12) (N := 135) (ty := tyX12) cl15 dX12_trim_1 o10021 37 (by decide) t_2428 (v := .ref 295) rfl ?_
  refine x_iload_n (M := M_X12_trim) dX12_trim_4 rfl ?_
  refine x_iald (M := M_X12_trim) dX12_trim_5 o10022 (vp_inD (by decide +kernel)) ?_
  refine x_top (M := M_X12_trim) (y := (Int32.ofInt 0)) (by decide +kernel) ?_
  refine x_if_le (M := M_X12_trim) (tgt := 46) dX12_trim_6 (by decide) (fun _ => ?_) (fun q => absurd q (by decide +kernel))
  refine x_aload_n (M := M_X12_trim) dX12_trim_46 rfl ?_
  refine x_getf (M := M_X12_trim) (ci := 15) (C := RX12) (T := TX12) (N := 135) (ty := tyX12) cl15 dX12_trim_47 o10021 37 (by decide) t_2428 (v := .ref 295) rfl ?_
  refine x_iload_n (M := M_X12_trim) dX12_trim_50 rfl ?_
  refine x_iald (M := M_X12_trim) dX12_trim_51 o10022 (vp_inD (by decide +kernel)) ?_
  refine x_top (M := M_X12_trim) (y := (Int32.ofInt 0)) (by decide +kernel) ?_
  refine x_if_ne (M := M_X12_trim) (tgt := 62) dX12_trim_52 (by decide) (fun q => absurd q (by decide +kernel)) (fun _ => ?_)
  refine x_aload_n (M := M_X12_trim) dX12_trim_55 rfl ?_
  refine x_getf (M := M_X12_trim) (ci := 15) (C := RX12) (T := TX12) (N := 135) (ty := tyX12) cl15 dX12_trim_56 o10021 38 (by decide) t_2429 (v := .ref 296) rfl ?_
  refine x_iload_n (M := M_X12_trim) dX12_trim_59 rfl ?_
  refine x_iconst (M := M_X12_trim) dX12_trim_60 ?_
  refine y_iast (M := M_X12_trim) (k := 9) dX12_trim_61 o10023 (vp_inD (by decide +kernel)) (by decide +kernel) (fun h10024 w10025 f10026 => ?_)
  have w10027 : ob h10024 296 = some (.inl (0, 20, .inl (fun _ => 0))) := by rw [w10025, up_z (k := 9)]
  exact x_vret (M := M_X12_trim) dX12_trim_62 rfl ⟨rfl, (fr_tr f10026 (by decide) fr_rf), ⟨w10027, trivial⟩⟩ (Nat.le_of_ble_eq_true rfl) (Nat.le_of_ble_eq_true rfl)
set_option maxRecDepth 10000 in
theorem q10036 {l : Launch} {E : EE} (hl : l.stackTraces = false) {h : HP} {dg : Int32} (o10008 : ob h 277 = some (.inr (15, ((RB dg).set 0 (.int (Int32.ofInt 0)))))) (o10009 : ob h 295 = some (.inl (0, 20, .inl (fun _ => 0)))) (o10015 : ob h 296 = some (.inl (0, 20, .inl (fun _ => 0)))) : en_C l E M_X12_times 1 0 0 [.ref 277, .int (Int32.ofInt 9), .int (Int32.ofInt 0), .int (Int32.ofInt 0)] h (pF none [295, 296] h (fun h' => ob h' 295 = some (.inl (0, 20, .inl (fun _ => 0))) ∧ ob h' 296 = some (.inl (0, 20, .inl (fun _ => 0))) ∧ True)) := by
  refine en_mk m_X12_times rfl hl (Nat.le_of_ble_eq_true rfl) ?_
  refine x_aload_n (M := M_X12_times) dX12_times_0 rfl ?_
  refine x_getf (M := M_X12_times) (ci := 15) (C := RX12) (T := TX12) (N := 135) (ty := tyX12) cl15 dX12_times_1 o10008 37 (by decide) t_2428 (v := .ref 295) rfl ?_
  refine x_iload_n (M := M_X12_times) dX12_times_4 rfl ?_
  refine x_iald (M := M_X12_times) dX12_times_5 o10009 (vp_inD (by decide +kernel)) ?_
  refine x_top (M := M_X12_times) (y := (Int32.ofInt 0)) (by decide +kernel) ?_
  refine x_aload_n (M := M_X12_times) dX12_times_6 rfl ?_
  refine x_getf (M := M_X12_times) (ci := 15) (C := RX12) (T := TX12) (N := 135) (ty := tyX12) cl15 dX12_times_7 o10008 37 (by decide) t_2428 (v := .ref 295) rfl ?_
  refine x_iload_n (M := M_X12_times) dX12_times_10 rfl ?_
  refine x_iald (M := M_X12_times) dX12_times_11 o10009 (vp_inD (by decide +kernel)) ?_
  refine x_top (M := M_X12_times) (y := (Int32.ofInt 0)) (by decide +kernel) ?_
  refine x_iadd (M := M_X12_times) dX12_times_12 ?_
  refine x_top (M := M_X12_times) (y := (Int32.ofInt 0)) (by decide +kernel) ?_
  refine x_istore (M := M_X12_times) dX12_times_13 (Nat.le_of_ble_eq_true rfl) rfl ?_
  refine x_iconst (M := M_X12_times) dX12_times_15 ?_
  refine x_istore (M := M_X12_times) dX12_times_16 (Nat.le_of_ble_eq_true rfl) rfl ?_
  refine x_iload (M := M_X12_times) dX12_times_18 rfl ?_
  refine x_iload (M := M_X12_times) dX12_times_20 rfl ?_
  refine x_icmp_ge (M := M_X12_times) (tgt := 45) dX12_times_22 (by decide) (fun _ => ?_) (fun q => absurd q (by decide +kernel))
  refine x_iconst (M := M_X12_times) dX12_times_45 ?_
  refine x_istore (M := M_X12_times) dX12_times_46 (Nat.le_of_ble_eq_true rfl) rfl ?_
  refine x_iload (M := M_X12_times) dX12_times_48 rfl ?_
  refine x_aload_n (M := M_X12_times) dX12_times_50 rfl ?_
  refine x_getf (M := M_X12_times) (ci := 15) (C := RX12) (T := TX12) (N := 135) (ty := tyX12) cl15 dX12_times_51 o10008 37 (by decide) t_2428 (v := .ref 295) rfl ?_
  refine x_iload_n (M := M_X12_times) dX12_times_54 rfl ?_
  refine x_iald (M := M_X12_times) dX12_times_55 o10009 (vp_inD (by decide +kernel)) ?_
  refine x_top (M := M_X12_times) (y := (Int32.ofInt 0)) (by decide +kernel) ?_
  refine x_icmp_ge (M := M_X12_times) (tgt := 188) dX12_times_56 (by decide) (fun _ => ?_) (fun q => absurd q (by decide +kernel))
  refine x_aload_n (M := M_X12_times) dX12_times_188 rfl ?_
  refine x_getf (M := M_X12_times) (ci := 15) (C := RX12) (T := TX12) (N := 135) (ty := tyX12) cl15 dX12_times_189 o10008 37 (by decide) t_2428 (v := .ref 295) rfl ?_
  refine x_iload_n (M := M_X12_times) dX12_times_192 rfl ?_
  refine x_iload (M := M_X12_times) dX12_times_193 rfl ?_
  refine y_iast (M := M_X12_times) (k := 9) dX12_times_195 o10009 (vp_inD (by decide +kernel)) (by decide +kernel) (fun h10010 w10011 f10012 => ?_)
  have w10013 : ob h10010 295 = some (.inl (0, 20, .inl (fun _ => 0))) := by rw [w10011, up_z (k := 9)]
  refine x_aload_n (M := M_X12_times) dX12_times_196 rfl ?_
  have o10014 := (f10012 277 _ (by decide) o10008)
  refine x_getf (M := M_X12_times) (ci := 15) (C := RX12) (T := TX12) (N := 135) (ty := tyX12) cl15 dX12_times_197 o10014 38 (by decide) t_2429 (v := .ref 296) rfl ?_
  refine x_iload_n (M := M_X12_times) dX12_times_200 rfl ?_
  refine x_aload_n (M := M_X12_times) dX12_times_201 rfl ?_
  refine x_getf (M := M_X12_times) (ci := 15) (C := RX12) (T := TX12) (N := 135) (ty := tyX12) cl15 dX12_times_202 o10014 38 (by decide) t_2429 (v := .ref 296) rfl ?_
  refine x_iload_n (M := M_X12_times) dX12_times_205 rfl ?_
  have o10016 := (f10012 296 _ (by decide) o10015)
  refine x_iald (M := M_X12_times) dX12_times_206 o10016 (vp_inD (by decide +kernel)) ?_
  refine x_top (M := M_X12_times) (y := (Int32.ofInt 0)) (by decide +kernel) ?_
  refine x_aload_n (M := M_X12_times) dX12_times_207 rfl ?_
  refine x_getf (M := M_X12_times) (ci := 15) (C := RX12) (T := TX12) (N := 135) (ty := tyX12) cl15 dX12_times_208 o10014 38 (by decide) t_2429 (v := .ref 296) rfl ?_
  refine x_iload_n (M := M_X12_times) dX12_times_211 rfl ?_
  refine x_iald (M := M_X12_times) dX12_times_212 o10016 (vp_inD (by decide +kernel)) ?_
  refine x_top (M := M_X12_times) (y := (Int32.ofInt 0)) (by decide +kernel) ?_
  refine x_imul (M := M_X12_times) dX12_times_213 ?_
  refine x_norm (M := M_X12_times) (st' := [.int (Int32.ofInt 0), .int (Int32.ofInt 9), .ref 296]) rfl (vi_cons (by decide +kernel : ((Int32.ofInt 0) * (Int32.ofInt 0)) = (Int32.ofInt 0)) rfl) rfl rfl rfl ?_
  refine y_iast (M := M_X12_times) (k := 9) dX12_times_214 o10016 (vp_inD (by decide +kernel)) (by decide +kernel) (fun h10017 w10018 f10019 => ?_)
  have w10020 : ob h10017 296 = some (.inl (0, 20, .inl (fun _ => 0))) := by rw [w10018, up_z (k := 9)]
  refine x_aload_n (M := M_X12_times) dX12_times_215 rfl ?_
  refine x_iload_n (M := M_X12_times) dX12_times_216 rfl ?_
  have o10029 := (f10019 277 _ (by decide) o10014)
  have o10030 := (f10019 295 _ (by decide) w10013)
  refine y_callVR (M := M_X12_times) (M' := M_X12_trim) rfl rfl dX12_times_217 m_X12_trim t_3170 t_3172 s_213 (q10028 hl o10029 o10030 w10020) rfl rfl o10029 rfl (Nat.le_of_ble_eq_true rfl) (Nat.le_of_ble_eq_true rfl) (Nat.le_of_ble_eq_true rfl) (Nat.le_of_ble_eq_true rfl) (fun h10031 f10032 w10033 => ?_)
  obtain ⟨o10034, -⟩ := w10033
  have o10035 := (f10032 295 _ (by decide) o10030)
  exact x_vret (M := M_X12_times) dX12_times_220 rfl ⟨rfl, (fr_tr f10032 (by decide) (fr_tr f10019 (by decide) (fr_tr f10012 (by decide) fr_rf))), ⟨o10035, o10034, trivial⟩⟩ (Nat.le_of_ble_eq_true rfl) (Nat.le_of_ble_eq_true rfl)
set_option maxRecDepth 10000 in
theorem q10065 {l : Launch} {E : EE} (hl : l.stackTraces = false) {h : HP} {dg : Int32} (o10058 : ob h 277 = some (.inr (15, ((RB dg).set 0 (.int (Int32.ofInt 0)))))) (o10059 : ob h 295 = some (.inl (0, 20, .inl (fun _ => 0)))) (o10060 : ob h 296 = some (.inl (0, 20, .inl (fun _ => 0)))) : en_C l E M_X12_trim 0 0 0 [.ref 277, .int (Int32.ofInt 10)] h (pF none [296] h (fun h' => ob h' 296 = some (.inl (0, 20, .inl (fun _ => 0))) ∧ True)) := by
  refine en_mk m_X12_trim rfl hl (Nat.le_of_ble_eq_true rfl) ?_
  refine x_aload_n (M := M_X12_trim) dX12_trim_0 rfl ?_
  refine x_getf (M := M_X12_trim) (ci := 15) (C := RX12) (T := TX12) (N := 135) (ty := tyX12) cl15 dX12_trim_1 o10058 37 (by decide) t_2428 (v := .ref 295) rfl ?_
  refine x_iload_n (M := M_X12_trim) dX12_trim_4 rfl ?_
  refine x_iald (M := M_X12_trim) dX12_trim_5 o10059 (vp_inD (by decide +kernel)) ?_
  refine x_top (M := M_X12_trim) (y := (Int32.ofInt 0)) (by decide +kernel) ?_
  refine x_if_le (M := M_X12_trim) (tgt := 46) dX12_trim_6 (by decide) (fun _ => ?_) (fun q => absurd q (by decide +kernel))
  refine x_aload_n (M := M_X12_trim) dX12_trim_46 rfl ?_
  refine x_getf (M := M_X12_trim) (ci := 15) (C := RX12) (T := TX12) (N := 135) (ty := tyX12) cl15 dX12_trim_47 o10058 37 (by decide) t_2428 (v := .ref 295) rfl ?_
  refine x_iload_n (M := M_X12_trim) dX12_trim_50 rfl ?_
  refine x_iald (M := M_X12_trim) dX12_trim_51 o10059 (vp_inD (by decide +kernel)) ?_
  refine x_top (M := M_X12_trim) (y := (Int32.ofInt 0)) (by decide +kernel) ?_
  refine x_if_ne (M := M_X12_trim) (tgt := 62) dX12_trim_52 (by decide) (fun q => absurd q (by decide +kernel)) (fun _ => ?_)
  refine x_aload_n (M := M_X12_trim) dX12_trim_55 rfl ?_
  refine x_getf (M := M_X12_trim) (ci := 15) (C := RX12) (T := TX12) (N := 135) (ty := tyX12) cl15 dX12_trim_56 o10058 38 (by decide) t_2429 (v := .ref 296) rfl ?_
  refine x_iload_n (M := M_X12_trim) dX12_trim_59 rfl ?_
  refine x_iconst (M := M_X12_trim) dX12_trim_60 ?_
  refine y_iast (M := M_X12_trim) (k := 10) dX12_trim_61 o10060 (vp_inD (by decide +kernel)) (by decide +kernel) (fun h10061 w10062 f10063 => ?_)
  have w10064 : ob h10061 296 = some (.inl (0, 20, .inl (fun _ => 0))) := by rw [w10062, up_z (k := 10)]
  exact x_vret (M := M_X12_trim) dX12_trim_62 rfl ⟨rfl, (fr_tr f10063 (by decide) fr_rf), ⟨w10064, trivial⟩⟩ (Nat.le_of_ble_eq_true rfl) (Nat.le_of_ble_eq_true rfl)
set_option maxRecDepth 10000 in
theorem q10073 {l : Launch} {E : EE} (hl : l.stackTraces = false) {h : HP} {dg : Int32} (o10045 : ob h 277 = some (.inr (15, ((RB dg).set 0 (.int (Int32.ofInt 0)))))) (o10046 : ob h 295 = some (.inl (0, 20, .inl (fun _ => 0)))) (o10052 : ob h 296 = some (.inl (0, 20, .inl (fun _ => 0)))) : en_C l E M_X12_times 1 0 0 [.ref 277, .int (Int32.ofInt 10), .int (Int32.ofInt 1), .int (Int32.ofInt 1)] h (pF none [295, 296] h (fun h' => ob h' 295 = some (.inl (0, 20, .inl (fun _ => 0))) ∧ ob h' 296 = some (.inl (0, 20, .inl (fun _ => 0))) ∧ True)) := by
  refine en_mk m_X12_times rfl hl (Nat.le_of_ble_eq_true rfl) ?_
  refine x_aload_n (M := M_X12_times) dX12_times_0 rfl ?_
  refine x_getf (M := M_X12_times) (ci := 15) (C := RX12) (T := TX12) (N := 135) (ty := tyX12) cl15 dX12_times_1 o10045 37 (by decide) t_2428 (v := .ref 295) rfl ?_
  refine x_iload_n (M := M_X12_times) dX12_times_4 rfl ?_
  refine x_iald (M := M_X12_times) dX12_times_5 o10046 (vp_inD (by decide +kernel)) ?_
  refine x_top (M := M_X12_times) (y := (Int32.ofInt 0)) (by decide +kernel) ?_
  refine x_aload_n (M := M_X12_times) dX12_times_6 rfl ?_
  refine x_getf (M := M_X12_times) (ci := 15) (C := RX12) (T := TX12) (N := 135) (ty := tyX12) cl15 dX12_times_7 o10045 37 (by decide) t_2428 (v := .ref 295) rfl ?_
  refine x_iload_n (M := M_X12_times) dX12_times_10 rfl ?_
  refine x_iald (M := M_X12_times) dX12_times_11 o10046 (vp_inD (by decide +kernel)) ?_
  refine x_top (M := M_X12_times) (y := (Int32.ofInt 0)) (by decide +kernel) ?_
  refine x_iadd (M := M_X12_times) dX12_times_12 ?_
  refine x_top (M := M_X12_times) (y := (Int32.ofInt 0)) (by decide +kernel) ?_
  refine x_istore (M := M_X12_times) dX12_times_13 (Nat.le_of_ble_eq_true rfl) rfl ?_
  refine x_iconst (M := M_X12_times) dX12_times_15 ?_
  refine x_istore (M := M_X12_times) dX12_times_16 (Nat.le_of_ble_eq_true rfl) rfl ?_
  refine x_iload (M := M_X12_times) dX12_times_18 rfl ?_
  refine x_iload (M := M_X12_times) dX12_times_20 rfl ?_
  refine x_icmp_ge (M := M_X12_times) (tgt := 45) dX12_times_22 (by decide) (fun _ => ?_) (fun q => absurd q (by decide +kernel))
  refine x_iconst (M := M_X12_times) dX12_times_45 ?_
  refine x_istore (M := M_X12_times) dX12_times_46 (Nat.le_of_ble_eq_true rfl) rfl ?_
  refine x_iload (M := M_X12_times) dX12_times_48 rfl ?_
  refine x_aload_n (M := M_X12_times) dX12_times_50 rfl ?_
  refine x_getf (M := M_X12_times) (ci := 15) (C := RX12) (T := TX12) (N := 135) (ty := tyX12) cl15 dX12_times_51 o10045 37 (by decide) t_2428 (v := .ref 295) rfl ?_
  refine x_iload_n (M := M_X12_times) dX12_times_54 rfl ?_
  refine x_iald (M := M_X12_times) dX12_times_55 o10046 (vp_inD (by decide +kernel)) ?_
  refine x_top (M := M_X12_times) (y := (Int32.ofInt 0)) (by decide +kernel) ?_
  refine x_icmp_ge (M := M_X12_times) (tgt := 188) dX12_times_56 (by decide) (fun _ => ?_) (fun q => absurd q (by decide +kernel))
  refine x_aload_n (M := M_X12_times) dX12_times_188 rfl ?_
  refine x_getf (M := M_X12_times) (ci := 15) (C := RX12) (T := TX12) (N := 135) (ty := tyX12) cl15 dX12_times_189 o10045 37 (by decide) t_2428 (v := .ref 295) rfl ?_
  refine x_iload_n (M := M_X12_times) dX12_times_192 rfl ?_
  refine x_iload (M := M_X12_times) dX12_times_193 rfl ?_
  refine y_iast (M := M_X12_times) (k := 10) dX12_times_195 o10046 (vp_inD (by decide +kernel)) (by decide +kernel) (fun h10047 w10048 f10049 => ?_)
  have w10050 : ob h10047 295 = some (.inl (0, 20, .inl (fun _ => 0))) := by rw [w10048, up_z (k := 10)]
  refine x_aload_n (M := M_X12_times) dX12_times_196 rfl ?_
  have o10051 := (f10049 277 _ (by decide) o10045)
  refine x_getf (M := M_X12_times) (ci := 15) (C := RX12) (T := TX12) (N := 135) (ty := tyX12) cl15 dX12_times_197 o10051 38 (by decide) t_2429 (v := .ref 296) rfl ?_
  refine x_iload_n (M := M_X12_times) dX12_times_200 rfl ?_
  refine x_aload_n (M := M_X12_times) dX12_times_201 rfl ?_
  refine x_getf (M := M_X12_times) (ci := 15) (C := RX12) (T := TX12) (N := 135) (ty := tyX12) cl15 dX12_times_202 o10051 38 (by decide) t_2429 (v := .ref 296) rfl ?_
  refine x_iload_n (M := M_X12_times) dX12_times_205 rfl ?_
  have o10053 := (f10049 296 _ (by decide) o10052)
  refine x_iald (M := M_X12_times) dX12_times_206 o10053 (vp_inD (by decide +kernel)) ?_
  refine x_top (M := M_X12_times) (y := (Int32.ofInt 0)) (by decide +kernel) ?_
  refine x_aload_n (M := M_X12_times) dX12_times_207 rfl ?_
  refine x_getf (M := M_X12_times) (ci := 15) (C := RX12) (T := TX12) (N := 135) (ty := tyX12) cl15 dX12_times_208 o10051 38 (by decide) t_2429 (v := .ref 296) rfl ?_
  refine x_iload_n (M := M_X12_times) dX12_times_211 rfl ?_
  refine x_iald (M := M_X12_times) dX12_times_212 o10053 (vp_inD (by decide +kernel)) ?_
  refine x_top (M := M_X12_times) (y := (Int32.ofInt 0)) (by decide +kernel) ?_
  refine x_imul (M := M_X12_times) dX12_times_213 ?_
  refine x_norm (M := M_X12_times) (st' := [.int (Int32.ofInt 0), .int (Int32.ofInt 10), .ref 296]) rfl (vi_cons (by decide +kernel : ((Int32.ofInt 0) * (Int32.ofInt 0)) = (Int32.ofInt 0)) rfl) rfl rfl rfl ?_
  refine y_iast (M := M_X12_times) (k := 10) dX12_times_214 o10053 (vp_inD (by decide +kernel)) (by decide +kernel) (fun h10054 w10055 f10056 => ?_)
  have w10057 : ob h10054 296 = some (.inl (0, 20, .inl (fun _ => 0))) := by rw [w10055, up_z (k := 10)]
  refine x_aload_n (M := M_X12_times) dX12_times_215 rfl ?_
  refine x_iload_n (M := M_X12_times) dX12_times_216 rfl ?_
  have o10066 := (f10056 277 _ (by decide) o10051)
  have o10067 := (f10056 295 _ (by decide) w10050)
  refine y_callVR (M := M_X12_times) (M' := M_X12_trim) rfl rfl dX12_times_217 m_X12_trim t_3170 t_3172 s_213 (q10065 hl o10066 o10067 w10057) rfl rfl o10066 rfl (Nat.le_of_ble_eq_true rfl) (Nat.le_of_ble_eq_true rfl) (Nat.le_of_ble_eq_true rfl) (Nat.le_of_ble_eq_true rfl) (fun h10068 f10069 w10070 => ?_)
  obtain ⟨o10071, -⟩ := w10070
  have o10072 := (f10069 295 _ (by decide) o10067)
  exact x_vret (M := M_X12_times) dX12_times_220 rfl ⟨rfl, (fr_tr f10069 (by decide) (fr_tr f10056 (by decide) (fr_tr f10049 (by decide) fr_rf))), ⟨o10072, o10071, trivial⟩⟩ (Nat.le_of_ble_eq_true rfl) (Nat.le_of_ble_eq_true rfl)
set_option maxRecDepth 10000 in
theorem q10086 {l : Launch} {E : EE} (hl : l.stackTraces = false) {h : HP} {dg : Int32} (o10084 : ob h 277 = some (.inr (15, ((RB dg).set 0 (.int (Int32.ofInt 0)))))) (o10085 : ob h 295 = some (.inl (0, 20, .inl (fun _ => 0)))) : en_C l E M_X12_limb 0 0 0 [.ref 277, .int (Int32.ofInt 9), .int (Int32.ofInt 0)] h (pR (some (.long (Int64.ofInt 0))) h) := by
  refine en_mk m_X12_limb rfl hl (Nat.le_of_ble_eq_true rfl) ?_
  refine x_iload_n (M := M_X12_limb) dX12_limb_0 rfl ?_
  refine x_aload_n (M := M_X12_limb) dX12_limb_1 rfl ?_
  refine x_getf (M := M_X12_limb) (ci := 15) (C := RX12) (T := TX12) (N := 135) (ty := tyX12) cl15 dX12_limb_2 o10084 37 (by decide) t_2428 (v := .ref 295) rfl ?_
  refine x_iload_n (M := M_X12_limb) dX12_limb_5 rfl ?_
  refine x_iald (M := M_X12_limb) dX12_limb_6 o10085 (vp_inD (by decide +kernel)) ?_
  refine x_top (M := M_X12_limb) (y := (Int32.ofInt 0)) (by decide +kernel) ?_
  refine x_icmp_ge (M := M_X12_limb) (tgt := 25) dX12_limb_7 (by decide) (fun _ => ?_) (fun q => absurd q (by decide +kernel))
  refine x_lconst (M := M_X12_limb) dX12_limb_25 ?_
  refine x_topl (M := M_X12_limb) (y := (Int64.ofInt 0)) (by decide +kernel) ?_
  exact x_lret (M := M_X12_limb) dX12_limb_26 rfl ⟨rfl, rfl⟩ (Nat.le_of_ble_eq_true rfl) (Nat.le_of_ble_eq_true rfl)
set_option maxRecDepth 10000 in
theorem q10089 {l : Launch} {E : EE} (hl : l.stackTraces = false) {h : HP} {dg : Int32} (o10087 : ob h 277 = some (.inr (15, ((RB dg).set 0 (.int (Int32.ofInt 0)))))) (o10088 : ob h 295 = some (.inl (0, 20, .inl (fun _ => 0)))) : en_C l E M_X12_limb 0 0 0 [.ref 277, .int (Int32.ofInt 10), .int (Int32.ofInt 0)] h (pR (some (.long (Int64.ofInt 0))) h) := by
  refine en_mk m_X12_limb rfl hl (Nat.le_of_ble_eq_true rfl) ?_
  refine x_iload_n (M := M_X12_limb) dX12_limb_0 rfl ?_
  refine x_aload_n (M := M_X12_limb) dX12_limb_1 rfl ?_
  refine x_getf (M := M_X12_limb) (ci := 15) (C := RX12) (T := TX12) (N := 135) (ty := tyX12) cl15 dX12_limb_2 o10087 37 (by decide) t_2428 (v := .ref 295) rfl ?_
  refine x_iload_n (M := M_X12_limb) dX12_limb_5 rfl ?_
  refine x_iald (M := M_X12_limb) dX12_limb_6 o10088 (vp_inD (by decide +kernel)) ?_
  refine x_top (M := M_X12_limb) (y := (Int32.ofInt 0)) (by decide +kernel) ?_
  refine x_icmp_ge (M := M_X12_limb) (tgt := 25) dX12_limb_7 (by decide) (fun _ => ?_) (fun q => absurd q (by decide +kernel))
  refine x_lconst (M := M_X12_limb) dX12_limb_25 ?_
  refine x_topl (M := M_X12_limb) (y := (Int64.ofInt 0)) (by decide +kernel) ?_
  exact x_lret (M := M_X12_limb) dX12_limb_26 rfl ⟨rfl, rfl⟩ (Nat.le_of_ble_eq_true rfl) (Nat.le_of_ble_eq_true rfl)
set_option maxRecDepth 10000 in
theorem q10101 {l : Launch} {E : EE} (hl : l.stackTraces = false) {h : HP} {dg : Int32} (o10082 : ob h 277 = some (.inr (15, ((RB dg).set 0 (.int (Int32.ofInt 0)))))) (o10083 : ob h 295 = some (.inl (0, 20, .inl (fun _ => 0)))) (o10090 : ob h 294 = some (.inl (1, 6000, .inr (.inl (fun _ => 0))))) : en_C l E M_X12_addSizes 1 0 0 [.ref 277, .int (Int32.ofInt 2), .int (Int32.ofInt 9), .int (Int32.ofInt 10)] h (pF none [294, 295] h (fun h' => ob h' 294 = some (.inl (1, 6000, .inr (.inl (fun _ => 0)))) ∧ ob h' 295 = some (.inl (0, 20, .inl (upd (fun _ => 0) 2 (Int32.ofInt 1)))) ∧ True)) := by
  refine en_mk m_X12_addSizes rfl hl (Nat.le_of_ble_eq_true rfl) ?_
  refine x_aload_n (M := M_X12_addSizes) dX12_addSizes_0 rfl ?_
  refine x_getf (M := M_X12_addSizes) (ci := 15) (C := RX12) (T := TX12) (N := 135) (ty := tyX12) cl15 dX12_addSizes_1 o10082 37 (by decide) t_2428 (v := .ref 295) rfl ?_
  refine x_iload_n (M := M_X12_addSizes) dX12_addSizes_4 rfl ?_
  refine x_iald (M := M_X12_addSizes) dX12_addSizes_5 o10083 (vp_inD (by decide +kernel)) ?_
  refine x_top (M := M_X12_addSizes) (y := (Int32.ofInt 0)) (by decide +kernel) ?_
  refine x_aload_n (M := M_X12_addSizes) dX12_addSizes_6 rfl ?_
  refine x_getf (M := M_X12_addSizes) (ci := 15) (C := RX12) (T := TX12) (N := 135) (ty := tyX12) cl15 dX12_addSizes_7 o10082 37 (by decide) t_2428 (v := .ref 295) rfl ?_
  refine x_iload_n (M := M_X12_addSizes) dX12_addSizes_10 rfl ?_
  refine x_iald (M := M_X12_addSizes) dX12_addSizes_11 o10083 (vp_inD (by decide +kernel)) ?_
  refine x_top (M := M_X12_addSizes) (y := (Int32.ofInt 0)) (by decide +kernel) ?_
  refine x_icmp_le (M := M_X12_addSizes) (tgt := 24) dX12_addSizes_12 (by decide) (fun _ => ?_) (fun q => absurd q (by decide +kernel))
  refine x_aload_n (M := M_X12_addSizes) dX12_addSizes_24 rfl ?_
  refine x_getf (M := M_X12_addSizes) (ci := 15) (C := RX12) (T := TX12) (N := 135) (ty := tyX12) cl15 dX12_addSizes_25 o10082 37 (by decide) t_2428 (v := .ref 295) rfl ?_
  refine x_iload_n (M := M_X12_addSizes) dX12_addSizes_28 rfl ?_
  refine x_iald (M := M_X12_addSizes) dX12_addSizes_29 o10083 (vp_inD (by decide +kernel)) ?_
  refine x_top (M := M_X12_addSizes) (y := (Int32.ofInt 0)) (by decide +kernel) ?_
  refine x_iconst (M := M_X12_addSizes) dX12_addSizes_30 ?_
  refine x_iadd (M := M_X12_addSizes) dX12_addSizes_31 ?_
  refine x_top (M := M_X12_addSizes) (y := (Int32.ofInt 1)) (by decide +kernel) ?_
  refine x_istore (M := M_X12_addSizes) dX12_addSizes_32 (Nat.le_of_ble_eq_true rfl) rfl ?_
  refine x_lconst (M := M_X12_addSizes) dX12_addSizes_34 ?_
  refine x_topl (M := M_X12_addSizes) (y := (Int64.ofInt 0)) (by decide +kernel) ?_
  refine x_lstore (M := M_X12_addSizes) dX12_addSizes_35 (Nat.le_of_ble_eq_true rfl) rfl ?_
  refine x_iconst (M := M_X12_addSizes) dX12_addSizes_37 ?_
  refine x_istore (M := M_X12_addSizes) dX12_addSizes_38 (Nat.le_of_ble_eq_true rfl) rfl ?_
  refine x_iload (M := M_X12_addSizes) dX12_addSizes_40 rfl ?_
  refine x_iload (M := M_X12_addSizes) dX12_addSizes_42 rfl ?_
  refine x_icmp_ge (M := M_X12_addSizes) (tgt := 99) dX12_addSizes_44 (by decide) (fun q => absurd q (by decide +kernel)) (fun _ => ?_)
  refine x_lload (M := M_X12_addSizes) dX12_addSizes_47 rfl ?_
  refine x_aload_n (M := M_X12_addSizes) dX12_addSizes_49 rfl ?_
  refine x_iload_n (M := M_X12_addSizes) dX12_addSizes_50 rfl ?_
  refine x_iload (M := M_X12_addSizes) dX12_addSizes_51 rfl ?_
  refine x_callVR (M := M_X12_addSizes) (M' := M_X12_limb) rfl rfl dX12_addSizes_53 m_X12_limb t_3182 t_3184 s_216 (q10086 hl o10082 o10083) rfl rfl o10082 rfl (Nat.le_of_ble_eq_true rfl) (Nat.le_of_ble_eq_true rfl) (Nat.le_of_ble_eq_true rfl) (Nat.le_of_ble_eq_true rfl) ?_
  refine x_aload_n (M := M_X12_addSizes) dX12_addSizes_56 rfl ?_
  refine x_iload_n (M := M_X12_addSizes) dX12_addSizes_57 rfl ?_
  refine x_iload (M := M_X12_addSizes) dX12_addSizes_58 rfl ?_
  refine x_callVR (M := M_X12_addSizes) (M' := M_X12_limb) rfl rfl dX12_addSizes_60 m_X12_limb t_3182 t_3184 s_216 (q10089 hl o10082 o10083) rfl rfl o10082 rfl (Nat.le_of_ble_eq_true rfl) (Nat.le_of_ble_eq_true rfl) (Nat.le_of_ble_eq_true rfl) (Nat.le_of_ble_eq_true rfl) ?_
  refine x_ladd (M := M_X12_addSizes) dX12_addSizes_63 ?_
  refine x_ladd (M := M_X12_addSizes) dX12_addSizes_64 ?_
  refine x_topl (M := M_X12_addSizes) (y := (Int64.ofInt 0)) (by decide +kernel) ?_
  refine x_lstore (M := M_X12_addSizes) dX12_addSizes_65 (Nat.le_of_ble_eq_true rfl) rfl ?_
  refine x_aload_n (M := M_X12_addSizes) dX12_addSizes_67 rfl ?_
  refine x_getf (M := M_X12_addSizes) (ci := 15) (C := RX12) (T := TX12) (N := 135) (ty := tyX12) cl15 dX12_addSizes_68 o10082 36 (by decide) t_2427 (v := .ref 294) rfl ?_
  refine x_sipush (M := M_X12_addSizes) dX12_addSizes_71 ?_
  refine x_iload_n (M := M_X12_addSizes) dX12_addSizes_74 rfl ?_
  refine x_imul (M := M_X12_addSizes) dX12_addSizes_75 ?_
  refine x_iload (M := M_X12_addSizes) dX12_addSizes_76 rfl ?_
  refine x_iadd (M := M_X12_addSizes) dX12_addSizes_78 ?_
  refine x_lload (M := M_X12_addSizes) dX12_addSizes_79 rfl ?_
  refine x_ldc2 (M := M_X12_addSizes) dX12_addSizes_81 t_3169 ?_
  refine x_land (M := M_X12_addSizes) dX12_addSizes_84 ?_
  refine x_norm (M := M_X12_addSizes) (st' := [.long (Int64.ofInt 0), .int (Int32.ofInt 600), .ref 294]) rfl (vj_cons (by decide +kernel : ((Int64.ofInt 0) &&& (4294967295 : Int64)) = (Int64.ofInt 0)) (vi_cons (by decide +kernel : ((((Int16.ofInt 300).toInt32) * (Int32.ofInt 2)) + (Int32.ofInt 0)) = (Int32.ofInt 600)) rfl)) rfl rfl rfl ?_
  refine y_last (M := M_X12_addSizes) (k := 600) dX12_addSizes_85 o10090 (vp_inD (by decide +kernel)) (by decide +kernel) (fun h10091 w10092 f10093 => ?_)
  have w10094 : ob h10091 294 = some (.inl (1, 6000, .inr (.inl (fun _ => 0)))) := by rw [w10092, uq_z (k := 600)]
  refine x_lload (M := M_X12_addSizes) dX12_addSizes_86 rfl ?_
  refine x_bipush (M := M_X12_addSizes) dX12_addSizes_88 ?_
  refine x_lushr (M := M_X12_addSizes) dX12_addSizes_90 ?_
  refine x_topl (M := M_X12_addSizes) (y := (Int64.ofInt 0)) (by decide +kernel) ?_
  refine x_lstore (M := M_X12_addSizes) dX12_addSizes_91 (Nat.le_of_ble_eq_true rfl) rfl ?_
  refine x_lvs (M := M_X12_addSizes) (lv' := [some (.ref 277), some (.int (Int32.ofInt 2)), some (.int (Int32.ofInt 9)), some (.int (Int32.ofInt 10)), some (.int (Int32.ofInt 1)), some (.long (Int64.ofInt 0)), none, some (.int (Int32.ofInt 0))]) rfl ?_
  refine x_iinc (M := M_X12_addSizes) dX12_addSizes_93 rfl (Nat.le_of_ble_eq_true rfl) rfl ?_
  refine x_lvs (M := M_X12_addSizes) (lv' := [some (.ref 277), some (.int (Int32.ofInt 2)), some (.int (Int32.ofInt 9)), some (.int (Int32.ofInt 10)), some (.int (Int32.ofInt 1)), some (.long (Int64.ofInt 0)), none, some (.int (Int32.ofInt 1))]) (by rw [(by decide +kernel : (Int32.ofInt 0) + Int32.ofInt 1 = (Int32.ofInt 1))] <;> rfl) ?_
  refine x_goto (M := M_X12_addSizes) (tgt := 40) dX12_addSizes_96 (by decide) ?_
  refine x_iload (M := M_X12_addSizes) dX12_addSizes_40 rfl ?_
  refine x_iload (M := M_X12_addSizes) dX12_addSizes_42 rfl ?_
  refine x_icmp_ge (M := M_X12_addSizes) (tgt := 99) dX12_addSizes_44 (by decide) (fun _ => ?_) (fun q => absurd q (by decide +kernel))
  refine x_aload_n (M := M_X12_addSizes) dX12_addSizes_99 rfl ?_
  have o10095 := (f10093 277 _ (by decide) o10082)
  refine x_getf (M := M_X12_addSizes) (ci := 15) (C := RX12) (T := TX12) (N := 135) (ty := tyX12) cl15 dX12_addSizes_100 o10095 37 (by decide) t_2428 (v := .ref 295) rfl ?_
  refine x_iload_n (M := M_X12_addSizes) dX12_addSizes_103 rfl ?_
  refine x_iload (M := M_X12_addSizes) dX12_addSizes_104 rfl ?_
  have o10096 := (f10093 295 _ (by decide) o10083)
  refine y_iast (M := M_X12_addSizes) (k := 2) dX12_addSizes_106 o10096 (vp_inD (by decide +kernel)) (by decide +kernel) (fun h10097 w10098 f10099 => ?_)
  have o10100 := (f10099 294 _ (by decide) w10094)
  exact x_vret (M := M_X12_addSizes) dX12_addSizes_107 rfl ⟨rfl, (fr_tr f10099 (by decide) (fr_tr f10093 (by decide) fr_rf)), ⟨o10100, w10098, trivial⟩⟩ (Nat.le_of_ble_eq_true rfl) (Nat.le_of_ble_eq_true rfl)
set_option maxRecDepth 10000 in
theorem q10124 {l : Launch} {E : EE} (hl : l.stackTraces = false) {h : HP} {dg : Int32} (o10080 : ob h 277 = some (.inr (15, ((RB dg).set 0 (.int (Int32.ofInt 0)))))) (o10081 : ob h 296 = some (.inl (0, 20, .inl (fun _ => 0)))) (o10102 : ob h 295 = some (.inl (0, 20, .inl (fun _ => 0)))) (o10103 : ob h 294 = some (.inl (1, 6000, .inr (.inl (fun _ => 0))))) : en_C l E M_X12_add 2 0 0 [.ref 277, .int (Int32.ofInt 2), .int (Int32.ofInt 9), .int (Int32.ofInt 10), .int (Int32.ofInt 0)] h (pF none [294, 295, 296] h (fun h' => ob h' 294 = some (.inl (1, 6000, .inr (.inl (fun _ => 0)))) ∧ ob h' 295 = some (.inl (0, 20, .inl (fun _ => 0))) ∧ ob h' 296 = some (.inl (0, 20, .inl (fun _ => 0))) ∧ True)) := by
  refine en_mk m_X12_add rfl hl (Nat.le_of_ble_eq_true rfl) ?_
  refine x_aload_n (M := M_X12_add) dX12_add_0 rfl ?_
  refine x_getf (M := M_X12_add) (ci := 15) (C := RX12) (T := TX12) (N := 135) (ty := tyX12) cl15 dX12_add_1 o10080 38 (by decide) t_2429 (v := .ref 296) rfl ?_
  refine x_iload_n (M := M_X12_add) dX12_add_4 rfl ?_
  refine x_iald (M := M_X12_add) dX12_add_5 o10081 (vp_inD (by decide +kernel)) ?_
  refine x_top (M := M_X12_add) (y := (Int32.ofInt 0)) (by decide +kernel) ?_
  refine x_istore (M := M_X12_add) dX12_add_6 (Nat.le_of_ble_eq_true rfl) rfl ?_
  refine x_iload (M := M_X12_add) dX12_add_8 rfl ?_
  refine x_if_eq (M := M_X12_add) (tgt := 23) dX12_add_10 (by decide) (fun _ => ?_) (fun q => absurd q (by decide +kernel))
  refine x_aload_n (M := M_X12_add) dX12_add_23 rfl ?_
  refine x_getf (M := M_X12_add) (ci := 15) (C := RX12) (T := TX12) (N := 135) (ty := tyX12) cl15 dX12_add_24 o10080 38 (by decide) t_2429 (v := .ref 296) rfl ?_
  refine x_iload_n (M := M_X12_add) dX12_add_27 rfl ?_
  refine x_iald (M := M_X12_add) dX12_add_28 o10081 (vp_inD (by decide +kernel)) ?_
  refine x_top (M := M_X12_add) (y := (Int32.ofInt 0)) (by decide +kernel) ?_
  refine x_istore (M := M_X12_add) dX12_add_29 (Nat.le_of_ble_eq_true rfl) rfl ?_
  refine x_iload (M := M_X12_add) dX12_add_31 rfl ?_
  refine x_if_eq (M := M_X12_add) (tgt := 48) dX12_add_33 (by decide) (fun _ => ?_) (fun q => absurd q (by decide +kernel))
  refine x_aload_n (M := M_X12_add) dX12_add_48 rfl ?_
  refine x_iload_n (M := M_X12_add) dX12_add_49 rfl ?_
  refine x_iload_n (M := M_X12_add) dX12_add_50 rfl ?_
  refine x_iload_n (M := M_X12_add) dX12_add_51 rfl ?_
  refine y_callVR (M := M_X12_add) (M' := M_X12_addSizes) rfl rfl dX12_add_52 m_X12_addSizes t_3178 t_3180 s_215 (q10101 hl o10080 o10102 o10103) rfl rfl o10080 rfl (Nat.le_of_ble_eq_true rfl) (Nat.le_of_ble_eq_true rfl) (Nat.le_of_ble_eq_true rfl) (Nat.le_of_ble_eq_true rfl) (fun h10104 f10105 w10106 => ?_)
  obtain ⟨o10107, o10108, -⟩ := w10106
  refine x_aload_n (M := M_X12_add) dX12_add_55 rfl ?_
  have o10109 := (f10105 277 _ (by decide) o10080)
  refine x_getf (M := M_X12_add) (ci := 15) (C := RX12) (T := TX12) (N := 135) (ty := tyX12) cl15 dX12_add_56 o10109 38 (by decide) t_2429 (v := .ref 296) rfl ?_
  refine x_iload_n (M := M_X12_add) dX12_add_59 rfl ?_
  refine x_iload (M := M_X12_add) dX12_add_60 rfl ?_
  refine x_if_ne (M := M_X12_add) (tgt := 70) dX12_add_62 (by decide) (fun q => absurd q (by decide +kernel)) (fun _ => ?_)
  refine x_iload (M := M_X12_add) dX12_add_65 rfl ?_
  refine x_goto (M := M_X12_add) (tgt := 72) dX12_add_67 (by decide) ?_
  have o10110 := (f10105 296 _ (by decide) o10081)
  refine y_iast (M := M_X12_add) (k := 2) dX12_add_72 o10110 (vp_inD (by decide +kernel)) (by decide +kernel) (fun h10111 w10112 f10113 => ?_)
  have w10114 : ob h10111 296 = some (.inl (0, 20, .inl (fun _ => 0))) := by rw [w10112, up_z (k := 2)]
  refine x_goto (M := M_X12_add) (tgt := 118) dX12_add_73 (by decide) ?_
  refine x_aload_n (M := M_X12_add) dX12_add_118 rfl ?_
  refine x_iload_n (M := M_X12_add) dX12_add_119 rfl ?_
  have o10115 := (f10113 277 _ (by decide) o10109)
  have o10116 := (f10113 295 _ (by decide) o10108)
  have o10117 := (f10113 294 _ (by decide) o10107)
  refine y_callVR (M := M_X12_add) (M' := M_X12_trim) rfl rfl dX12_add_120 m_X12_trim t_3170 t_3172 s_213 (q7859 hl o10115 o10116 o10117 w10114) rfl rfl o10115 rfl (Nat.le_of_ble_eq_true rfl) (Nat.le_of_ble_eq_true rfl) (Nat.le_of_ble_eq_true rfl) (Nat.le_of_ble_eq_true rfl) (fun h10118 f10119 w10120 => ?_)
  obtain ⟨o10121, o10122, -⟩ := w10120
  have o10123 := (f10119 294 _ (by decide) o10117)
  exact x_vret (M := M_X12_add) dX12_add_123 rfl ⟨rfl, (fr_tr f10119 (by decide) (fr_tr f10113 (by decide) (fr_tr f10105 (by decide) fr_rf))), ⟨o10123, o10121, o10122, trivial⟩⟩ (Nat.le_of_ble_eq_true rfl) (Nat.le_of_ble_eq_true rfl)
set_option maxRecDepth 10000 in
theorem q10134 {l : Launch} {E : EE} (hl : l.stackTraces = false) {h : HP} {dg : Int32} (o10037 : ob h 277 = some (.inr (15, ((RB dg).set 0 (.int (Int32.ofInt 0)))))) (o10038 : ob h 295 = some (.inl (0, 20, .inl (fun _ => 0)))) (o10039 : ob h 296 = some (.inl (0, 20, .inl (fun _ => 0)))) (o10126 : ob h 294 = some (.inl (1, 6000, .inr (.inl (fun _ => 0))))) : en_C l E M_X12_squares 3 0 0 [.ref 277, .int (Int32.ofInt 0)] h (pF none [295, 296, 294] h (fun h' => ob h' 295 = some (.inl (0, 20, .inl (fun _ => 0))) ∧ ob h' 296 = some (.inl (0, 20, .inl (fun _ => 0))) ∧ ob h' 294 = some (.inl (1, 6000, .inr (.inl (fun _ => 0)))) ∧ True)) := by
  refine en_mk m_X12_squares rfl hl (Nat.le_of_ble_eq_true rfl) ?_
  refine x_aload_n (M := M_X12_squares) dX12_squares_0 rfl ?_
  refine x_bipush (M := M_X12_squares) dX12_squares_1 ?_
  refine x_iconst (M := M_X12_squares) dX12_squares_3 ?_
  refine x_iload_n (M := M_X12_squares) dX12_squares_4 rfl ?_
  refine x_imul (M := M_X12_squares) dX12_squares_5 ?_
  refine x_iconst (M := M_X12_squares) dX12_squares_6 ?_
  refine x_iload_n (M := M_X12_squares) dX12_squares_7 rfl ?_
  refine x_imul (M := M_X12_squares) dX12_squares_8 ?_
  refine x_norm (M := M_X12_squares) (st' := [.int (Int32.ofInt 0), .int (Int32.ofInt 0), .int (Int32.ofInt 9), .ref 277]) rfl (vi_cons (by decide +kernel : ((Int32.ofInt 3) * (Int32.ofInt 0)) = (Int32.ofInt 0)) (vi_cons (by decide +kernel : ((Int32.ofInt 3) * (Int32.ofInt 0)) = (Int32.ofInt 0)) (vi_cons (by decide +kernel : ((Int8.ofInt 9).toInt32) = (Int32.ofInt 9)) rfl))) rfl rfl rfl ?_
  refine y_callVR (M := M_X12_squares) (M' := M_X12_times) rfl rfl dX12_squares_9 m_X12_times t_3194 t_3196 s_219 (q10036 hl o10037 o10038 o10039) rfl rfl o10037 rfl (Nat.le_of_ble_eq_true rfl) (Nat.le_of_ble_eq_true rfl) (Nat.le_of_ble_eq_true rfl) (Nat.le_of_ble_eq_true rfl) (fun h10040 f10041 w10042 => ?_)
  obtain ⟨o10043, o10044, -⟩ := w10042
  refine x_aload_n (M := M_X12_squares) dX12_squares_12 rfl ?_
  refine x_bipush (M := M_X12_squares) dX12_squares_13 ?_
  refine x_iconst (M := M_X12_squares) dX12_squares_15 ?_
  refine x_iload_n (M := M_X12_squares) dX12_squares_16 rfl ?_
  refine x_imul (M := M_X12_squares) dX12_squares_17 ?_
  refine x_iconst (M := M_X12_squares) dX12_squares_18 ?_
  refine x_iadd (M := M_X12_squares) dX12_squares_19 ?_
  refine x_iconst (M := M_X12_squares) dX12_squares_20 ?_
  refine x_iload_n (M := M_X12_squares) dX12_squares_21 rfl ?_
  refine x_imul (M := M_X12_squares) dX12_squares_22 ?_
  refine x_iconst (M := M_X12_squares) dX12_squares_23 ?_
  refine x_iadd (M := M_X12_squares) dX12_squares_24 ?_
  refine x_norm (M := M_X12_squares) (st' := [.int (Int32.ofInt 1), .int (Int32.ofInt 1), .int (Int32.ofInt 10), .ref 277]) rfl (vi_cons (by decide +kernel : (((Int32.ofInt 3) * (Int32.ofInt 0)) + (Int32.ofInt 1)) = (Int32.ofInt 1)) (vi_cons (by decide +kernel : (((Int32.ofInt 3) * (Int32.ofInt 0)) + (Int32.ofInt 1)) = (Int32.ofInt 1)) (vi_cons (by decide +kernel : ((Int8.ofInt 10).toInt32) = (Int32.ofInt 10)) rfl))) rfl rfl rfl ?_
  have o10074 := (f10041 277 _ (by decide) o10037)
  refine y_callVR (M := M_X12_squares) (M' := M_X12_times) rfl rfl dX12_squares_25 m_X12_times t_3194 t_3196 s_219 (q10073 hl o10074 o10043 o10044) rfl rfl o10074 rfl (Nat.le_of_ble_eq_true rfl) (Nat.le_of_ble_eq_true rfl) (Nat.le_of_ble_eq_true rfl) (Nat.le_of_ble_eq_true rfl) (fun h10075 f10076 w10077 => ?_)
  obtain ⟨o10078, o10079, -⟩ := w10077
  refine x_aload_n (M := M_X12_squares) dX12_squares_28 rfl ?_
  refine x_iconst (M := M_X12_squares) dX12_squares_29 ?_
  refine x_iload_n (M := M_X12_squares) dX12_squares_30 rfl ?_
  refine x_imul (M := M_X12_squares) dX12_squares_31 ?_
  refine x_iconst (M := M_X12_squares) dX12_squares_32 ?_
  refine x_iadd (M := M_X12_squares) dX12_squares_33 ?_
  refine x_bipush (M := M_X12_squares) dX12_squares_34 ?_
  refine x_bipush (M := M_X12_squares) dX12_squares_36 ?_
  refine x_iconst (M := M_X12_squares) dX12_squares_38 ?_
  refine x_norm (M := M_X12_squares) (st' := [.int (Int32.ofInt 0), .int (Int32.ofInt 10), .int (Int32.ofInt 9), .int (Int32.ofInt 2), .ref 277]) rfl (v_cons (vi_cons (by decide +kernel : ((Int8.ofInt 10).toInt32) = (Int32.ofInt 10)) (vi_cons (by decide +kernel : ((Int8.ofInt 9).toInt32) = (Int32.ofInt 9)) (vi_cons (by decide +kernel : (((Int32.ofInt 3) * (Int32.ofInt 0)) + (Int32.ofInt 2)) = (Int32.ofInt 2)) rfl)))) rfl rfl rfl ?_
  have o10125 := (f10076 277 _ (by decide) o10074)
  have o10127 := (f10076 294 _ (by decide) (f10041 294 _ (by decide) o10126))
  refine y_callVR (M := M_X12_squares) (M' := M_X12_add) rfl rfl dX12_squares_39 m_X12_add t_3174 t_3176 s_214 (q10124 hl o10125 o10079 o10078 o10127) rfl rfl o10125 rfl (Nat.le_of_ble_eq_true rfl) (Nat.le_of_ble_eq_true rfl) (Nat.le_of_ble_eq_true rfl) (Nat.le_of_ble_eq_true rfl) (fun h10128 f10129 w10130 => ?_)
  obtain ⟨o10131, o10132, o10133, -⟩ := w10130
  exact x_vret (M := M_X12_squares) dX12_squares_42 rfl ⟨rfl, (fr_tr f10129 (by decide) (fr_tr f10076 (by decide) (fr_tr f10041 (by decide) fr_rf))), ⟨o10132, o10133, o10131, trivial⟩⟩ (Nat.le_of_ble_eq_true rfl) (Nat.le_of_ble_eq_true rfl)
set_option maxRecDepth 10000 in
theorem q10162 {l : Launch} {E : EE} (hl : l.stackTraces = false) {h : HP} {dg : Int32} (o10142 : ob h 277 = some (.inr (15, ((RB dg).set 0 (.int (Int32.ofInt 0)))))) (o10143 : ob h 295 = some (.inl (0, 20, .inl (fun _ => 0)))) (o10149 : ob h 296 = some (.inl (0, 20, .inl (fun _ => 0)))) : en_C l E M_X12_times 1 0 0 [.ref 277, .int (Int32.ofInt 9), .int (Int32.ofInt 3), .int (Int32.ofInt 3)] h (pF none [295, 296] h (fun h' => ob h' 295 = some (.inl (0, 20, .inl (fun _ => 0))) ∧ ob h' 296 = some (.inl (0, 20, .inl (fun _ => 0))) ∧ True)) := by
  refine en_mk m_X12_times rfl hl (Nat.le_of_ble_eq_true rfl) ?_
  refine x_aload_n (M := M_X12_times) dX12_times_0 rfl ?_
  refine x_getf (M := M_X12_times) (ci := 15) (C := RX12) (T := TX12) (N := 135) (ty := tyX12) cl15 dX12_times_1 o10142 37 (by decide) t_2428 (v := .ref 295) rfl ?_
  refine x_iload_n (M := M_X12_times) dX12_times_4 rfl ?_
  refine x_iald (M := M_X12_times) dX12_times_5 o10143 (vp_inD (by decide +kernel)) ?_
  refine x_top (M := M_X12_times) (y := (Int32.ofInt 0)) (by decide +kernel) ?_
  refine x_aload_n (M := M_X12_times) dX12_times_6 rfl ?_
  refine x_getf (M := M_X12_times) (ci := 15) (C := RX12) (T := TX12) (N := 135) (ty := tyX12) cl15 dX12_times_7 o10142 37 (by decide) t_2428 (v := .ref 295) rfl ?_
  refine x_iload_n (M := M_X12_times) dX12_times_10 rfl ?_
  refine x_iald (M := M_X12_times) dX12_times_11 o10143 (vp_inD (by decide +kernel)) ?_
  refine x_top (M := M_X12_times) (y := (Int32.ofInt 0)) (by decide +kernel) ?_
  refine x_iadd (M := M_X12_times) dX12_times_12 ?_
  refine x_top (M := M_X12_times) (y := (Int32.ofInt 0)) (by decide +kernel) ?_
  refine x_istore (M := M_X12_times) dX12_times_13 (Nat.le_of_ble_eq_true rfl) rfl ?_
  refine x_iconst (M := M_X12_times) dX12_times_15 ?_
  refine x_istore (M := M_X12_times) dX12_times_16 (Nat.le_of_ble_eq_true rfl) rfl ?_
  refine x_iload (M := M_X12_times) dX12_times_18 rfl ?_
  refine x_iload (M := M_X12_times) dX12_times_20 rfl ?_
  refine x_icmp_ge (M := M_X12_times) (tgt := 45) dX12_times_22 (by decide) (fun _ => ?_) (fun q => absurd q (by decide +kernel))
  refine x_iconst (M := M_X12_times) dX12_times_45 ?_
  refine x_istore (M := M_X12_times) dX12_times_46 (Nat.le_of_ble_eq_true rfl) rfl ?_
  refine x_iload (M := M_X12_times) dX12_times_48 rfl ?_
  refine x_aload_n (M := M_X12_times) dX12_times_50 rfl ?_
  refine x_getf (M := M_X12_times) (ci := 15) (C := RX12) (T := TX12) (N := 135) (ty := tyX12) cl15 dX12_times_51 o10142 37 (by decide) t_2428 (v := .ref 295) rfl ?_
  refine x_iload_n (M := M_X12_times) dX12_times_54 rfl ?_
  refine x_iald (M := M_X12_times) dX12_times_55 o10143 (vp_inD (by decide +kernel)) ?_
  refine x_top (M := M_X12_times) (y := (Int32.ofInt 0)) (by decide +kernel) ?_
  refine x_icmp_ge (M := M_X12_times) (tgt := 188) dX12_times_56 (by decide) (fun _ => ?_) (fun q => absurd q (by decide +kernel))
  refine x_aload_n (M := M_X12_times) dX12_times_188 rfl ?_
  refine x_getf (M := M_X12_times) (ci := 15) (C := RX12) (T := TX12) (N := 135) (ty := tyX12) cl15 dX12_times_189 o10142 37 (by decide) t_2428 (v := .ref 295) rfl ?_
  refine x_iload_n (M := M_X12_times) dX12_times_192 rfl ?_
  refine x_iload (M := M_X12_times) dX12_times_193 rfl ?_
  refine y_iast (M := M_X12_times) (k := 9) dX12_times_195 o10143 (vp_inD (by decide +kernel)) (by decide +kernel) (fun h10144 w10145 f10146 => ?_)
  have w10147 : ob h10144 295 = some (.inl (0, 20, .inl (fun _ => 0))) := by rw [w10145, up_z (k := 9)]
  refine x_aload_n (M := M_X12_times) dX12_times_196 rfl ?_
  have o10148 := (f10146 277 _ (by decide) o10142)
  refine x_getf (M := M_X12_times) (ci := 15) (C := RX12) (T := TX12) (N := 135) (ty := tyX12) cl15 dX12_times_197 o10148 38 (by decide) t_2429 (v := .ref 296) rfl ?_
  refine x_iload_n (M := M_X12_times) dX12_times_200 rfl ?_
  refine x_aload_n (M := M_X12_times) dX12_times_201 rfl ?_
  refine x_getf (M := M_X12_times) (ci := 15) (C := RX12) (T := TX12) (N := 135) (ty := tyX12) cl15 dX12_times_202 o10148 38 (by decide) t_2429 (v := .ref 296) rfl ?_
  refine x_iload_n (M := M_X12_times) dX12_times_205 rfl ?_
  have o10150 := (f10146 296 _ (by decide) o10149)
  refine x_iald (M := M_X12_times) dX12_times_206 o10150 (vp_inD (by decide +kernel)) ?_
  refine x_top (M := M_X12_times) (y := (Int32.ofInt 0)) (by decide +kernel) ?_
  refine x_aload_n (M := M_X12_times) dX12_times_207 rfl ?_
  refine x_getf (M := M_X12_times) (ci := 15) (C := RX12) (T := TX12) (N := 135) (ty := tyX12) cl15 dX12_times_208 o10148 38 (by decide) t_2429 (v := .ref 296) rfl ?_
  refine x_iload_n (M := M_X12_times) dX12_times_211 rfl ?_
  refine x_iald (M := M_X12_times) dX12_times_212 o10150 (vp_inD (by decide +kernel)) ?_
  refine x_top (M := M_X12_times) (y := (Int32.ofInt 0)) (by decide +kernel) ?_
  refine x_imul (M := M_X12_times) dX12_times_213 ?_
  refine x_norm (M := M_X12_times) (st' := [.int (Int32.ofInt 0), .int (Int32.ofInt 9), .ref 296]) rfl (vi_cons (by decide +kernel : ((Int32.ofInt 0) * (Int32.ofInt 0)) = (Int32.ofInt 0)) rfl) rfl rfl rfl ?_
  refine y_iast (M := M_X12_times) (k := 9) dX12_times_214 o10150 (vp_inD (by decide +kernel)) (by decide +kernel) (fun h10151 w10152 f10153 => ?_)
  have w10154 : ob h10151 296 = some (.inl (0, 20, .inl (fun _ => 0))) := by rw [w10152, up_z (k := 9)]
  refine x_aload_n (M := M_X12_times) dX12_times_215 rfl ?_
  refine x_iload_n (M := M_X12_times) dX12_times_216 rfl ?_
  have o10155 := (f10153 277 _ (by decide) o10148)
  have o10156 := (f10153 295 _ (by decide) w10147)
  refine y_callVR (M := M_X12_times) (M' := M_X12_trim) rfl rfl dX12_times_217 m_X12_trim t_3170 t_3172 s_213 (q10028 hl o10155 o10156 w10154) rfl rfl o10155 rfl (Nat.le_of_ble_eq_true rfl) (Nat.le_of_ble_eq_true rfl) (Nat.le_of_ble_eq_true rfl) (Nat.le_of_ble_eq_true rfl) (fun h10157 f10158 w10159 => ?_)
  obtain ⟨o10160, -⟩ := w10159
  have o10161 := (f10158 295 _ (by decide) o10156)
  exact x_vret (M := M_X12_times) dX12_times_220 rfl ⟨rfl, (fr_tr f10158 (by decide) (fr_tr f10153 (by decide) (fr_tr f10146 (by decide) fr_rf))), ⟨o10161, o10160, trivial⟩⟩ (Nat.le_of_ble_eq_true rfl) (Nat.le_of_ble_eq_true rfl)
set_option maxRecDepth 10000 in
theorem q10191 {l : Launch} {E : EE} (hl : l.stackTraces = false) {h : HP} {dg : Int32} (o10171 : ob h 277 = some (.inr (15, ((RB dg).set 0 (.int (Int32.ofInt 0)))))) (o10172 : ob h 295 = some (.inl (0, 20, .inl (fun _ => 0)))) (o10178 : ob h 296 = some (.inl (0, 20, .inl (fun _ => 0)))) : en_C l E M_X12_times 1 0 0 [.ref 277, .int (Int32.ofInt 10), .int (Int32.ofInt 4), .int (Int32.ofInt 4)] h (pF none [295, 296] h (fun h' => ob h' 295 = some (.inl (0, 20, .inl (fun _ => 0))) ∧ ob h' 296 = some (.inl (0, 20, .inl (fun _ => 0))) ∧ True)) := by
  refine en_mk m_X12_times rfl hl (Nat.le_of_ble_eq_true rfl) ?_
  refine x_aload_n (M := M_X12_times) dX12_times_0 rfl ?_
  refine x_getf (M := M_X12_times) (ci := 15) (C := RX12) (T := TX12) (N := 135) (ty := tyX12) cl15 dX12_times_1 o10171 37 (by decide) t_2428 (v := .ref 295) rfl ?_
  refine x_iload_n (M := M_X12_times) dX12_times_4 rfl ?_
  refine x_iald (M := M_X12_times) dX12_times_5 o10172 (vp_inD (by decide +kernel)) ?_
  refine x_top (M := M_X12_times) (y := (Int32.ofInt 0)) (by decide +kernel) ?_
  refine x_aload_n (M := M_X12_times) dX12_times_6 rfl ?_
  refine x_getf (M := M_X12_times) (ci := 15) (C := RX12) (T := TX12) (N := 135) (ty := tyX12) cl15 dX12_times_7 o10171 37 (by decide) t_2428 (v := .ref 295) rfl ?_
  refine x_iload_n (M := M_X12_times) dX12_times_10 rfl ?_
  refine x_iald (M := M_X12_times) dX12_times_11 o10172 (vp_inD (by decide +kernel)) ?_
  refine x_top (M := M_X12_times) (y := (Int32.ofInt 0)) (by decide +kernel) ?_
  refine x_iadd (M := M_X12_times) dX12_times_12 ?_
  refine x_top (M := M_X12_times) (y := (Int32.ofInt 0)) (by decide +kernel) ?_
  refine x_istore (M := M_X12_times) dX12_times_13 (Nat.le_of_ble_eq_true rfl) rfl ?_
  refine x_iconst (M := M_X12_times) dX12_times_15 ?_
  refine x_istore (M := M_X12_times) dX12_times_16 (Nat.le_of_ble_eq_true rfl) rfl ?_
  refine x_iload (M := M_X12_times) dX12_times_18 rfl ?_
  refine x_iload (M := M_X12_times) dX12_times_20 rfl ?_
  refine x_icmp_ge (M := M_X12_times) (tgt := 45) dX12_times_22 (by decide) (fun _ => ?_) (fun q => absurd q (by decide +kernel))
  refine x_iconst (M := M_X12_times) dX12_times_45 ?_
  refine x_istore (M := M_X12_times) dX12_times_46 (Nat.le_of_ble_eq_true rfl) rfl ?_
  refine x_iload (M := M_X12_times) dX12_times_48 rfl ?_
  refine x_aload_n (M := M_X12_times) dX12_times_50 rfl ?_
  refine x_getf (M := M_X12_times) (ci := 15) (C := RX12) (T := TX12) (N := 135) (ty := tyX12) cl15 dX12_times_51 o10171 37 (by decide) t_2428 (v := .ref 295) rfl ?_
  refine x_iload_n (M := M_X12_times) dX12_times_54 rfl ?_
  refine x_iald (M := M_X12_times) dX12_times_55 o10172 (vp_inD (by decide +kernel)) ?_
  refine x_top (M := M_X12_times) (y := (Int32.ofInt 0)) (by decide +kernel) ?_
  refine x_icmp_ge (M := M_X12_times) (tgt := 188) dX12_times_56 (by decide) (fun _ => ?_) (fun q => absurd q (by decide +kernel))
  refine x_aload_n (M := M_X12_times) dX12_times_188 rfl ?_
  refine x_getf (M := M_X12_times) (ci := 15) (C := RX12) (T := TX12) (N := 135) (ty := tyX12) cl15 dX12_times_189 o10171 37 (by decide) t_2428 (v := .ref 295) rfl ?_
  refine x_iload_n (M := M_X12_times) dX12_times_192 rfl ?_
  refine x_iload (M := M_X12_times) dX12_times_193 rfl ?_
  refine y_iast (M := M_X12_times) (k := 10) dX12_times_195 o10172 (vp_inD (by decide +kernel)) (by decide +kernel) (fun h10173 w10174 f10175 => ?_)
  have w10176 : ob h10173 295 = some (.inl (0, 20, .inl (fun _ => 0))) := by rw [w10174, up_z (k := 10)]
  refine x_aload_n (M := M_X12_times) dX12_times_196 rfl ?_
  have o10177 := (f10175 277 _ (by decide) o10171)
  refine x_getf (M := M_X12_times) (ci := 15) (C := RX12) (T := TX12) (N := 135) (ty := tyX12) cl15 dX12_times_197 o10177 38 (by decide) t_2429 (v := .ref 296) rfl ?_
  refine x_iload_n (M := M_X12_times) dX12_times_200 rfl ?_
  refine x_aload_n (M := M_X12_times) dX12_times_201 rfl ?_
  refine x_getf (M := M_X12_times) (ci := 15) (C := RX12) (T := TX12) (N := 135) (ty := tyX12) cl15 dX12_times_202 o10177 38 (by decide) t_2429 (v := .ref 296) rfl ?_
  refine x_iload_n (M := M_X12_times) dX12_times_205 rfl ?_
  have o10179 := (f10175 296 _ (by decide) o10178)
  refine x_iald (M := M_X12_times) dX12_times_206 o10179 (vp_inD (by decide +kernel)) ?_
  refine x_top (M := M_X12_times) (y := (Int32.ofInt 0)) (by decide +kernel) ?_
  refine x_aload_n (M := M_X12_times) dX12_times_207 rfl ?_
  refine x_getf (M := M_X12_times) (ci := 15) (C := RX12) (T := TX12) (N := 135) (ty := tyX12) cl15 dX12_times_208 o10177 38 (by decide) t_2429 (v := .ref 296) rfl ?_
  refine x_iload_n (M := M_X12_times) dX12_times_211 rfl ?_
  refine x_iald (M := M_X12_times) dX12_times_212 o10179 (vp_inD (by decide +kernel)) ?_
  refine x_top (M := M_X12_times) (y := (Int32.ofInt 0)) (by decide +kernel) ?_
  refine x_imul (M := M_X12_times) dX12_times_213 ?_
  refine x_norm (M := M_X12_times) (st' := [.int (Int32.ofInt 0), .int (Int32.ofInt 10), .ref 296]) rfl (vi_cons (by decide +kernel : ((Int32.ofInt 0) * (Int32.ofInt 0)) = (Int32.ofInt 0)) rfl) rfl rfl rfl ?_
  refine y_iast (M := M_X12_times) (k := 10) dX12_times_214 o10179 (vp_inD (by decide +kernel)) (by decide +kernel) (fun h10180 w10181 f10182 => ?_)
  have w10183 : ob h10180 296 = some (.inl (0, 20, .inl (fun _ => 0))) := by rw [w10181, up_z (k := 10)]
  refine x_aload_n (M := M_X12_times) dX12_times_215 rfl ?_
  refine x_iload_n (M := M_X12_times) dX12_times_216 rfl ?_
  have o10184 := (f10182 277 _ (by decide) o10177)
  have o10185 := (f10182 295 _ (by decide) w10176)
  refine y_callVR (M := M_X12_times) (M' := M_X12_trim) rfl rfl dX12_times_217 m_X12_trim t_3170 t_3172 s_213 (q10065 hl o10184 o10185 w10183) rfl rfl o10184 rfl (Nat.le_of_ble_eq_true rfl) (Nat.le_of_ble_eq_true rfl) (Nat.le_of_ble_eq_true rfl) (Nat.le_of_ble_eq_true rfl) (fun h10186 f10187 w10188 => ?_)
  obtain ⟨o10189, -⟩ := w10188
  have o10190 := (f10187 295 _ (by decide) o10185)
  exact x_vret (M := M_X12_times) dX12_times_220 rfl ⟨rfl, (fr_tr f10187 (by decide) (fr_tr f10182 (by decide) (fr_tr f10175 (by decide) fr_rf))), ⟨o10190, o10189, trivial⟩⟩ (Nat.le_of_ble_eq_true rfl) (Nat.le_of_ble_eq_true rfl)
set_option maxRecDepth 10000 in
theorem q10213 {l : Launch} {E : EE} (hl : l.stackTraces = false) {h : HP} {dg : Int32} (o10200 : ob h 277 = some (.inr (15, ((RB dg).set 0 (.int (Int32.ofInt 0)))))) (o10201 : ob h 295 = some (.inl (0, 20, .inl (fun _ => 0)))) (o10202 : ob h 294 = some (.inl (1, 6000, .inr (.inl (fun _ => 0))))) : en_C l E M_X12_addSizes 1 0 0 [.ref 277, .int (Int32.ofInt 5), .int (Int32.ofInt 9), .int (Int32.ofInt 10)] h (pF none [294, 295] h (fun h' => ob h' 294 = some (.inl (1, 6000, .inr (.inl (fun _ => 0)))) ∧ ob h' 295 = some (.inl (0, 20, .inl (upd (fun _ => 0) 5 (Int32.ofInt 1)))) ∧ True)) := by
  refine en_mk m_X12_addSizes rfl hl (Nat.le_of_ble_eq_true rfl) ?_
  refine x_aload_n (M := M_X12_addSizes) dX12_addSizes_0 rfl ?_
  refine x_getf (M := M_X12_addSizes) (ci := 15) (C := RX12) (T := TX12) (N := 135) (ty := tyX12) cl15 dX12_addSizes_1 o10200 37 (by decide) t_2428 (v := .ref 295) rfl ?_
  refine x_iload_n (M := M_X12_addSizes) dX12_addSizes_4 rfl ?_
  refine x_iald (M := M_X12_addSizes) dX12_addSizes_5 o10201 (vp_inD (by decide +kernel)) ?_
  refine x_top (M := M_X12_addSizes) (y := (Int32.ofInt 0)) (by decide +kernel) ?_
  refine x_aload_n (M := M_X12_addSizes) dX12_addSizes_6 rfl ?_
  refine x_getf (M := M_X12_addSizes) (ci := 15) (C := RX12) (T := TX12) (N := 135) (ty := tyX12) cl15 dX12_addSizes_7 o10200 37 (by decide) t_2428 (v := .ref 295) rfl ?_
  refine x_iload_n (M := M_X12_addSizes) dX12_addSizes_10 rfl ?_
  refine x_iald (M := M_X12_addSizes) dX12_addSizes_11 o10201 (vp_inD (by decide +kernel)) ?_
  refine x_top (M := M_X12_addSizes) (y := (Int32.ofInt 0)) (by decide +kernel) ?_
  refine x_icmp_le (M := M_X12_addSizes) (tgt := 24) dX12_addSizes_12 (by decide) (fun _ => ?_) (fun q => absurd q (by decide +kernel))
  refine x_aload_n (M := M_X12_addSizes) dX12_addSizes_24 rfl ?_
  refine x_getf (M := M_X12_addSizes) (ci := 15) (C := RX12) (T := TX12) (N := 135) (ty := tyX12) cl15 dX12_addSizes_25 o10200 37 (by decide) t_2428 (v := .ref 295) rfl ?_
  refine x_iload_n (M := M_X12_addSizes) dX12_addSizes_28 rfl ?_
  refine x_iald (M := M_X12_addSizes) dX12_addSizes_29 o10201 (vp_inD (by decide +kernel)) ?_
  refine x_top (M := M_X12_addSizes) (y := (Int32.ofInt 0)) (by decide +kernel) ?_
  refine x_iconst (M := M_X12_addSizes) dX12_addSizes_30 ?_
  refine x_iadd (M := M_X12_addSizes) dX12_addSizes_31 ?_
  refine x_top (M := M_X12_addSizes) (y := (Int32.ofInt 1)) (by decide +kernel) ?_
  refine x_istore (M := M_X12_addSizes) dX12_addSizes_32 (Nat.le_of_ble_eq_true rfl) rfl ?_
  refine x_lconst (M := M_X12_addSizes) dX12_addSizes_34 ?_
  refine x_topl (M := M_X12_addSizes) (y := (Int64.ofInt 0)) (by decide +kernel) ?_
  refine x_lstore (M := M_X12_addSizes) dX12_addSizes_35 (Nat.le_of_ble_eq_true rfl) rfl ?_
  refine x_iconst (M := M_X12_addSizes) dX12_addSizes_37 ?_
  refine x_istore (M := M_X12_addSizes) dX12_addSizes_38 (Nat.le_of_ble_eq_true rfl) rfl ?_
  refine x_iload (M := M_X12_addSizes) dX12_addSizes_40 rfl ?_
  refine x_iload (M := M_X12_addSizes) dX12_addSizes_42 rfl ?_
  refine x_icmp_ge (M := M_X12_addSizes) (tgt := 99) dX12_addSizes_44 (by decide) (fun q => absurd q (by decide +kernel)) (fun _ => ?_)
  refine x_lload (M := M_X12_addSizes) dX12_addSizes_47 rfl ?_
  refine x_aload_n (M := M_X12_addSizes) dX12_addSizes_49 rfl ?_
  refine x_iload_n (M := M_X12_addSizes) dX12_addSizes_50 rfl ?_
  refine x_iload (M := M_X12_addSizes) dX12_addSizes_51 rfl ?_
  refine x_callVR (M := M_X12_addSizes) (M' := M_X12_limb) rfl rfl dX12_addSizes_53 m_X12_limb t_3182 t_3184 s_216 (q10086 hl o10200 o10201) rfl rfl o10200 rfl (Nat.le_of_ble_eq_true rfl) (Nat.le_of_ble_eq_true rfl) (Nat.le_of_ble_eq_true rfl) (Nat.le_of_ble_eq_true rfl) ?_
  refine x_aload_n (M := M_X12_addSizes) dX12_addSizes_56 rfl ?_
  refine x_iload_n (M := M_X12_addSizes) dX12_addSizes_57 rfl ?_
  refine x_iload (M := M_X12_addSizes) dX12_addSizes_58 rfl ?_
  refine x_callVR (M := M_X12_addSizes) (M' := M_X12_limb) rfl rfl dX12_addSizes_60 m_X12_limb t_3182 t_3184 s_216 (q10089 hl o10200 o10201) rfl rfl o10200 rfl (Nat.le_of_ble_eq_true rfl) (Nat.le_of_ble_eq_true rfl) (Nat.le_of_ble_eq_true rfl) (Nat.le_of_ble_eq_true rfl) ?_
  refine x_ladd (M := M_X12_addSizes) dX12_addSizes_63 ?_
  refine x_ladd (M := M_X12_addSizes) dX12_addSizes_64 ?_
  refine x_topl (M := M_X12_addSizes) (y := (Int64.ofInt 0)) (by decide +kernel) ?_
  refine x_lstore (M := M_X12_addSizes) dX12_addSizes_65 (Nat.le_of_ble_eq_true rfl) rfl ?_
  refine x_aload_n (M := M_X12_addSizes) dX12_addSizes_67 rfl ?_
  refine x_getf (M := M_X12_addSizes) (ci := 15) (C := RX12) (T := TX12) (N := 135) (ty := tyX12) cl15 dX12_addSizes_68 o10200 36 (by decide) t_2427 (v := .ref 294) rfl ?_
  refine x_sipush (M := M_X12_addSizes) dX12_addSizes_71 ?_
  refine x_iload_n (M := M_X12_addSizes) dX12_addSizes_74 rfl ?_
  refine x_imul (M := M_X12_addSizes) dX12_addSizes_75 ?_
  refine x_iload (M := M_X12_addSizes) dX12_addSizes_76 rfl ?_
  refine x_iadd (M := M_X12_addSizes) dX12_addSizes_78 ?_
  refine x_lload (M := M_X12_addSizes) dX12_addSizes_79 rfl ?_
  refine x_ldc2 (M := M_X12_addSizes) dX12_addSizes_81 t_3169 ?_
  refine x_land (M := M_X12_addSizes) dX12_addSizes_84 ?_
  refine x_norm (M := M_X12_addSizes) (st' := [.long (Int64.ofInt 0), .int (Int32.ofInt 1500), .ref 294]) rfl (vj_cons (by decide +kernel : ((Int64.ofInt 0) &&& (4294967295 : Int64)) = (Int64.ofInt 0)) (vi_cons (by decide +kernel : ((((Int16.ofInt 300).toInt32) * (Int32.ofInt 5)) + (Int32.ofInt 0)) = (Int32.ofInt 1500)) rfl)) rfl rfl rfl ?_
  refine y_last (M := M_X12_addSizes) (k := 1500) dX12_addSizes_85 o10202 (vp_inD (by decide +kernel)) (by decide +kernel) (fun h10203 w10204 f10205 => ?_)
  have w10206 : ob h10203 294 = some (.inl (1, 6000, .inr (.inl (fun _ => 0)))) := by rw [w10204, uq_z (k := 1500)]
  refine x_lload (M := M_X12_addSizes) dX12_addSizes_86 rfl ?_
  refine x_bipush (M := M_X12_addSizes) dX12_addSizes_88 ?_
  refine x_lushr (M := M_X12_addSizes) dX12_addSizes_90 ?_
  refine x_topl (M := M_X12_addSizes) (y := (Int64.ofInt 0)) (by decide +kernel) ?_
  refine x_lstore (M := M_X12_addSizes) dX12_addSizes_91 (Nat.le_of_ble_eq_true rfl) rfl ?_
  refine x_lvs (M := M_X12_addSizes) (lv' := [some (.ref 277), some (.int (Int32.ofInt 5)), some (.int (Int32.ofInt 9)), some (.int (Int32.ofInt 10)), some (.int (Int32.ofInt 1)), some (.long (Int64.ofInt 0)), none, some (.int (Int32.ofInt 0))]) rfl ?_
  refine x_iinc (M := M_X12_addSizes) dX12_addSizes_93 rfl (Nat.le_of_ble_eq_true rfl) rfl ?_
  refine x_lvs (M := M_X12_addSizes) (lv' := [some (.ref 277), some (.int (Int32.ofInt 5)), some (.int (Int32.ofInt 9)), some (.int (Int32.ofInt 10)), some (.int (Int32.ofInt 1)), some (.long (Int64.ofInt 0)), none, some (.int (Int32.ofInt 1))]) (by rw [(by decide +kernel : (Int32.ofInt 0) + Int32.ofInt 1 = (Int32.ofInt 1))] <;> rfl) ?_
  refine x_goto (M := M_X12_addSizes) (tgt := 40) dX12_addSizes_96 (by decide) ?_
  refine x_iload (M := M_X12_addSizes) dX12_addSizes_40 rfl ?_
  refine x_iload (M := M_X12_addSizes) dX12_addSizes_42 rfl ?_
  refine x_icmp_ge (M := M_X12_addSizes) (tgt := 99) dX12_addSizes_44 (by decide) (fun _ => ?_) (fun q => absurd q (by decide +kernel))
  refine x_aload_n (M := M_X12_addSizes) dX12_addSizes_99 rfl ?_
  have o10207 := (f10205 277 _ (by decide) o10200)
  refine x_getf (M := M_X12_addSizes) (ci := 15) (C := RX12) (T := TX12) (N := 135) (ty := tyX12) cl15 dX12_addSizes_100 o10207 37 (by decide) t_2428 (v := .ref 295) rfl ?_
  refine x_iload_n (M := M_X12_addSizes) dX12_addSizes_103 rfl ?_
  refine x_iload (M := M_X12_addSizes) dX12_addSizes_104 rfl ?_
  have o10208 := (f10205 295 _ (by decide) o10201)
  refine y_iast (M := M_X12_addSizes) (k := 5) dX12_addSizes_106 o10208 (vp_inD (by decide +kernel)) (by decide +kernel) (fun h10209 w10210 f10211 => ?_)
  have o10212 := (f10211 294 _ (by decide) w10206)
  exact x_vret (M := M_X12_addSizes) dX12_addSizes_107 rfl ⟨rfl, (fr_tr f10211 (by decide) (fr_tr f10205 (by decide) fr_rf)), ⟨o10212, w10210, trivial⟩⟩ (Nat.le_of_ble_eq_true rfl) (Nat.le_of_ble_eq_true rfl)
set_option maxRecDepth 10000 in
theorem q10242 {l : Launch} {E : EE} (hl : l.stackTraces = false) {h : HP} {dg : Int32} (o10227 : ob h 277 = some (.inr (15, ((RB dg).set 0 (.int (Int32.ofInt 0)))))) (o10228 : ob h 295 = some (.inl (0, 20, .inl (upd (fun _ => 0) 5 (Int32.ofInt 1))))) (o10229 : ob h 294 = some (.inl (1, 6000, .inr (.inl (fun _ => 0))))) (o10235 : ob h 296 = some (.inl (0, 20, .inl (fun _ => 0)))) : en_C l E M_X12_trim 0 0 0 [.ref 277, .int (Int32.ofInt 5)] h (pF none [295, 296] h (fun h' => ob h' 295 = some (.inl (0, 20, .inl (fun _ => 0))) ∧ ob h' 296 = some (.inl (0, 20, .inl (fun _ => 0))) ∧ True)) := by
  refine en_mk m_X12_trim rfl hl (Nat.le_of_ble_eq_true rfl) ?_
  refine x_aload_n (M := M_X12_trim) dX12_trim_0 rfl ?_
  refine x_getf (M := M_X12_trim) (ci := 15) (C := RX12) (T := TX12) (N := 135) (ty := tyX12) cl15 dX12_trim_1 o10227 37 (by decide) t_2428 (v := .ref 295) rfl ?_
  refine x_iload_n (M := M_X12_trim) dX12_trim_4 rfl ?_
  refine x_iald (M := M_X12_trim) dX12_trim_5 o10228 (vp_inD (by decide +kernel)) ?_
  refine x_top (M := M_X12_trim) (y := (Int32.ofInt 1)) (by decide +kernel) ?_
  refine x_if_le (M := M_X12_trim) (tgt := 46) dX12_trim_6 (by decide) (fun q => absurd q (by decide +kernel)) (fun _ => ?_)
  refine x_aload_n (M := M_X12_trim) dX12_trim_9 rfl ?_
  refine x_getf (M := M_X12_trim) (ci := 15) (C := RX12) (T := TX12) (N := 135) (ty := tyX12) cl15 dX12_trim_10 o10227 36 (by decide) t_2427 (v := .ref 294) rfl ?_
  refine x_sipush (M := M_X12_trim) dX12_trim_13 ?_
  refine x_iload_n (M := M_X12_trim) dX12_trim_16 rfl ?_
  refine x_imul (M := M_X12_trim) dX12_trim_17 ?_
  refine x_aload_n (M := M_X12_trim) dX12_trim_18 rfl ?_
  refine x_getf (M := M_X12_trim) (ci := 15) (C := RX12) (T := TX12) (N := 135) (ty := tyX12) cl15 dX12_trim_19 o10227 37 (by decide) t_2428 (v := .ref 295) rfl ?_
  refine x_iload_n (M := M_X12_trim) dX12_trim_22 rfl ?_
  refine x_iald (M := M_X12_trim) dX12_trim_23 o10228 (vp_inD (by decide +kernel)) ?_
  refine x_top (M := M_X12_trim) (y := (Int32.ofInt 1)) (by decide +kernel) ?_
  refine x_iadd (M := M_X12_trim) dX12_trim_24 ?_
  refine x_iconst (M := M_X12_trim) dX12_trim_25 ?_
  refine x_isub (M := M_X12_trim) dX12_trim_26 ?_
  refine x_lald (M := M_X12_trim) dX12_trim_27 o10229 (vp_inD (by decide +kernel)) ?_
  refine x_topl (M := M_X12_trim) (y := (Int64.ofInt 0)) (by decide +kernel) ?_
  refine x_lconst (M := M_X12_trim) dX12_trim_28 ?_
  refine x_lcmp (M := M_X12_trim) dX12_trim_29 ?_
  refine x_if_ne (M := M_X12_trim) (tgt := 46) dX12_trim_30 (by decide) (fun q => absurd q (by decide +kernel)) (fun _ => ?_)
  refine x_aload_n (M := M_X12_trim) dX12_trim_33 rfl ?_
  refine x_getf (M := M_X12_trim) (ci := 15) (C := RX12) (T := TX12) (N := 135) (ty := tyX12) cl15 dX12_trim_34 o10227 37 (by decide) t_2428 (v := .ref 295) rfl ?_
  refine x_iload_n (M := M_X12_trim) dX12_trim_37 rfl ?_
  refine x_dup2 (M := M_X12_trim) dX12_trim_38 rfl rfl ?_
  refine x_iald (M := M_X12_trim) dX12_trim_39 o10228 (vp_inD (by decide +kernel)) ?_
  refine x_top (M := M_X12_trim) (y := (Int32.ofInt 1)) (by decide +kernel) ?_
  refine x_iconst (M := M_X12_trim) dX12_trim_40 ?_
  refine x_isub (M := M_X12_trim) dX12_trim_41 ?_
  refine x_norm (M := M_X12_trim) (st' := [.int (Int32.ofInt 0), .int (Int32.ofInt 5), .ref 295]) rfl (vi_cons (by decide +kernel : ((Int32.ofInt 1) - (Int32.ofInt 1)) = (Int32.ofInt 0)) rfl) rfl rfl rfl ?_
  refine y_iast (M := M_X12_trim) (k := 5) dX12_trim_42 o10228 (vp_inD (by decide +kernel)) (by decide +kernel) (fun h10230 w10231 f10232 => ?_)
  have w10233 : ob h10230 295 = some (.inl (0, 20, .inl (fun _ => 0))) := by rw [w10231, up_up (k := 5), up_z (k := 5)]
  refine x_goto (M := M_X12_trim) (tgt := 0) dX12_trim_43 (by decide) ?_
  refine x_aload_n (M := M_X12_trim) dX12_trim_0 rfl ?_
  have o10234 := (f10232 277 _ (by decide) o10227)
  refine x_getf (M := M_X12_trim) (ci := 15) (C := RX12) (T := TX12) (N := 135) (ty := tyX12) cl15 dX12_trim_1 o10234 37 (by decide) t_2428 (v := .ref 295) rfl ?_
  refine x_iload_n (M := M_X12_trim) dX12_trim_4 rfl ?_
  refine x_iald (M := M_X12_trim) dX12_trim_5 w10233 (vp_inD (by decide +kernel)) ?_
  refine x_top (M := M_X12_trim) (y := (Int32.ofInt 0)) (by decide +kernel) ?_
  refine x_if_le (M := M_X12_trim) (tgt := 46) dX12_trim_6 (by decide) (fun _ => ?_) (fun q => absurd q (by decide +kernel))
  refine x_aload_n (M := M_X12_trim) dX12_trim_46 rfl ?_
  refine x_getf (M := M_X12_trim) (ci := 15) (C := RX12) (T := TX12) (N := 135) (ty := tyX12) cl15 dX12_trim_47 o10234 37 (by decide) t_2428 (v := .ref 295) rfl ?_
  refine x_iload_n (M := M_X12_trim) dX12_trim_50 rfl ?_
  refine x_iald (M := M_X12_trim) dX12_trim_51 w10233 (vp_inD (by decide +kernel)) ?_
  refine x_top (M := M_X12_trim) (y := (Int32.ofInt 0)) (by decide +kernel) ?_
  refine x_if_ne (M := M_X12_trim) (tgt := 62) dX12_trim_52 (by decide) (fun q => absurd q (by decide +kernel)) (fun _ => ?_)
  refine x_aload_n (M := M_X12_trim) dX12_trim_55 rfl ?_
  refine x_getf (M := M_X12_trim) (ci := 15) (C := RX12) (T := TX12) (N := 135) (ty := tyX12) cl15 dX12_trim_56 o10234 38 (by decide) t_2429 (v := .ref 296) rfl ?_
  refine x_iload_n (M := M_X12_trim) dX12_trim_59 rfl ?_
  refine x_iconst (M := M_X12_trim) dX12_trim_60 ?_
  have o10236 := (f10232 296 _ (by decide) o10235)
  refine y_iast (M := M_X12_trim) (k := 5) dX12_trim_61 o10236 (vp_inD (by decide +kernel)) (by decide +kernel) (fun h10237 w10238 f10239 => ?_)
  have w10240 : ob h10237 296 = some (.inl (0, 20, .inl (fun _ => 0))) := by rw [w10238, up_z (k := 5)]
  have o10241 := (f10239 295 _ (by decide) w10233)
  exact x_vret (M := M_X12_trim) dX12_trim_62 rfl ⟨rfl, (fr_tr f10239 (by decide) (fr_tr f10232 (by decide) fr_rf)), ⟨o10241, w10240, trivial⟩⟩ (Nat.le_of_ble_eq_true rfl) (Nat.le_of_ble_eq_true rfl)
set_option maxRecDepth 10000 in
theorem q10252 {l : Launch} {E : EE} (hl : l.stackTraces = false) {h : HP} {dg : Int32} (o10198 : ob h 277 = some (.inr (15, ((RB dg).set 0 (.int (Int32.ofInt 0)))))) (o10199 : ob h 296 = some (.inl (0, 20, .inl (fun _ => 0)))) (o10214 : ob h 295 = some (.inl (0, 20, .inl (fun _ => 0)))) (o10215 : ob h 294 = some (.inl (1, 6000, .inr (.inl (fun _ => 0))))) : en_C l E M_X12_add 2 0 0 [.ref 277, .int (Int32.ofInt 5), .int (Int32.ofInt 9), .int (Int32.ofInt 10), .int (Int32.ofInt 0)] h (pF none [294, 295, 296] h (fun h' => ob h' 294 = some (.inl (1, 6000, .inr (.inl (fun _ => 0)))) ∧ ob h' 295 = some (.inl (0, 20, .inl (fun _ => 0))) ∧ ob h' 296 = some (.inl (0, 20, .inl (fun _ => 0))) ∧ True)) := by
  refine en_mk m_X12_add rfl hl (Nat.le_of_ble_eq_true rfl) ?_
  refine x_aload_n (M := M_X12_add) dX12_add_0 rfl ?_
  refine x_getf (M := M_X12_add) (ci := 15) (C := RX12) (T := TX12) (N := 135) (ty := tyX12) cl15 dX12_add_1 o10198 38 (by decide) t_2429 (v := .ref 296) rfl ?_
  refine x_iload_n (M := M_X12_add) dX12_add_4 rfl ?_
  refine x_iald (M := M_X12_add) dX12_add_5 o10199 (vp_inD (by decide +kernel)) ?_
  refine x_top (M := M_X12_add) (y := (Int32.ofInt 0)) (by decide +kernel) ?_
  refine x_istore (M := M_X12_add) dX12_add_6 (Nat.le_of_ble_eq_true rfl) rfl ?_
  refine x_iload (M := M_X12_add) dX12_add_8 rfl ?_
  refine x_if_eq (M := M_X12_add) (tgt := 23) dX12_add_10 (by decide) (fun _ => ?_) (fun q => absurd q (by decide +kernel))
  refine x_aload_n (M := M_X12_add) dX12_add_23 rfl ?_
  refine x_getf (M := M_X12_add) (ci := 15) (C := RX12) (T := TX12) (N := 135) (ty := tyX12) cl15 dX12_add_24 o10198 38 (by decide) t_2429 (v := .ref 296) rfl ?_
  refine x_iload_n (M := M_X12_add) dX12_add_27 rfl ?_
  refine x_iald (M := M_X12_add) dX12_add_28 o10199 (vp_inD (by decide +kernel)) ?_
  refine x_top (M := M_X12_add) (y := (Int32.ofInt 0)) (by decide +kernel) ?_
  refine x_istore (M := M_X12_add) dX12_add_29 (Nat.le_of_ble_eq_true rfl) rfl ?_
  refine x_iload (M := M_X12_add) dX12_add_31 rfl ?_
  refine x_if_eq (M := M_X12_add) (tgt := 48) dX12_add_33 (by decide) (fun _ => ?_) (fun q => absurd q (by decide +kernel))
  refine x_aload_n (M := M_X12_add) dX12_add_48 rfl ?_
  refine x_iload_n (M := M_X12_add) dX12_add_49 rfl ?_
  refine x_iload_n (M := M_X12_add) dX12_add_50 rfl ?_
  refine x_iload_n (M := M_X12_add) dX12_add_51 rfl ?_
  refine y_callVR (M := M_X12_add) (M' := M_X12_addSizes) rfl rfl dX12_add_52 m_X12_addSizes t_3178 t_3180 s_215 (q10213 hl o10198 o10214 o10215) rfl rfl o10198 rfl (Nat.le_of_ble_eq_true rfl) (Nat.le_of_ble_eq_true rfl) (Nat.le_of_ble_eq_true rfl) (Nat.le_of_ble_eq_true rfl) (fun h10216 f10217 w10218 => ?_)
  obtain ⟨o10219, o10220, -⟩ := w10218
  refine x_aload_n (M := M_X12_add) dX12_add_55 rfl ?_
  have o10221 := (f10217 277 _ (by decide) o10198)
  refine x_getf (M := M_X12_add) (ci := 15) (C := RX12) (T := TX12) (N := 135) (ty := tyX12) cl15 dX12_add_56 o10221 38 (by decide) t_2429 (v := .ref 296) rfl ?_
  refine x_iload_n (M := M_X12_add) dX12_add_59 rfl ?_
  refine x_iload (M := M_X12_add) dX12_add_60 rfl ?_
  refine x_if_ne (M := M_X12_add) (tgt := 70) dX12_add_62 (by decide) (fun q => absurd q (by decide +kernel)) (fun _ => ?_)
  refine x_iload (M := M_X12_add) dX12_add_65 rfl ?_
  refine x_goto (M := M_X12_add) (tgt := 72) dX12_add_67 (by decide) ?_
  have o10222 := (f10217 296 _ (by decide) o10199)
  refine y_iast (M := M_X12_add) (k := 5) dX12_add_72 o10222 (vp_inD (by decide +kernel)) (by decide +kernel) (fun h10223 w10224 f10225 => ?_)
  have w10226 : ob h10223 296 = some (.inl (0, 20, .inl (fun _ => 0))) := by rw [w10224, up_z (k := 5)]
  refine x_goto (M := M_X12_add) (tgt := 118) dX12_add_73 (by decide) ?_
  refine x_aload_n (M := M_X12_add) dX12_add_118 rfl ?_
  refine x_iload_n (M := M_X12_add) dX12_add_119 rfl ?_
  have o10243 := (f10225 277 _ (by decide) o10221)
  have o10244 := (f10225 295 _ (by decide) o10220)
  have o10245 := (f10225 294 _ (by decide) o10219)
  refine y_callVR (M := M_X12_add) (M' := M_X12_trim) rfl rfl dX12_add_120 m_X12_trim t_3170 t_3172 s_213 (q10242 hl o10243 o10244 o10245 w10226) rfl rfl o10243 rfl (Nat.le_of_ble_eq_true rfl) (Nat.le_of_ble_eq_true rfl) (Nat.le_of_ble_eq_true rfl) (Nat.le_of_ble_eq_true rfl) (fun h10246 f10247 w10248 => ?_)
  obtain ⟨o10249, o10250, -⟩ := w10248
  have o10251 := (f10247 294 _ (by decide) o10245)
  exact x_vret (M := M_X12_add) dX12_add_123 rfl ⟨rfl, (fr_tr f10247 (by decide) (fr_tr f10225 (by decide) (fr_tr f10217 (by decide) fr_rf))), ⟨o10251, o10249, o10250, trivial⟩⟩ (Nat.le_of_ble_eq_true rfl) (Nat.le_of_ble_eq_true rfl)
set_option maxRecDepth 10000 in
theorem q10262 {l : Launch} {E : EE} (hl : l.stackTraces = false) {h : HP} {dg : Int32} (o10163 : ob h 277 = some (.inr (15, ((RB dg).set 0 (.int (Int32.ofInt 0)))))) (o10164 : ob h 295 = some (.inl (0, 20, .inl (fun _ => 0)))) (o10165 : ob h 296 = some (.inl (0, 20, .inl (fun _ => 0)))) (o10254 : ob h 294 = some (.inl (1, 6000, .inr (.inl (fun _ => 0))))) : en_C l E M_X12_squares 3 0 0 [.ref 277, .int (Int32.ofInt 1)] h (pF none [295, 296, 294] h (fun h' => ob h' 295 = some (.inl (0, 20, .inl (fun _ => 0))) ∧ ob h' 296 = some (.inl (0, 20, .inl (fun _ => 0))) ∧ ob h' 294 = some (.inl (1, 6000, .inr (.inl (fun _ => 0)))) ∧ True)) := by
  refine en_mk m_X12_squares rfl hl (Nat.le_of_ble_eq_true rfl) ?_
  refine x_aload_n (M := M_X12_squares) dX12_squares_0 rfl ?_
  refine x_bipush (M := M_X12_squares) dX12_squares_1 ?_
  refine x_iconst (M := M_X12_squares) dX12_squares_3 ?_
  refine x_iload_n (M := M_X12_squares) dX12_squares_4 rfl ?_
  refine x_imul (M := M_X12_squares) dX12_squares_5 ?_
  refine x_iconst (M := M_X12_squares) dX12_squares_6 ?_
  refine x_iload_n (M := M_X12_squares) dX12_squares_7 rfl ?_
  refine x_imul (M := M_X12_squares) dX12_squares_8 ?_
  refine x_norm (M := M_X12_squares) (st' := [.int (Int32.ofInt 3), .int (Int32.ofInt 3), .int (Int32.ofInt 9), .ref 277]) rfl (vi_cons (by decide +kernel : ((Int32.ofInt 3) * (Int32.ofInt 1)) = (Int32.ofInt 3)) (vi_cons (by decide +kernel : ((Int32.ofInt 3) * (Int32.ofInt 1)) = (Int32.ofInt 3)) (vi_cons (by decide +kernel : ((Int8.ofInt 9).toInt32) = (Int32.ofInt 9)) rfl))) rfl rfl rfl ?_
  refine y_callVR (M := M_X12_squares) (M' := M_X12_times) rfl rfl dX12_squares_9 m_X12_times t_3194 t_3196 s_219 (q10162 hl o10163 o10164 o10165) rfl rfl o10163 rfl (Nat.le_of_ble_eq_true rfl) (Nat.le_of_ble_eq_true rfl) (Nat.le_of_ble_eq_true rfl) (Nat.le_of_ble_eq_true rfl) (fun h10166 f10167 w10168 => ?_)
  obtain ⟨o10169, o10170, -⟩ := w10168
  refine x_aload_n (M := M_X12_squares) dX12_squares_12 rfl ?_
  refine x_bipush (M := M_X12_squares) dX12_squares_13 ?_
  refine x_iconst (M := M_X12_squares) dX12_squares_15 ?_
  refine x_iload_n (M := M_X12_squares) dX12_squares_16 rfl ?_
  refine x_imul (M := M_X12_squares) dX12_squares_17 ?_
  refine x_iconst (M := M_X12_squares) dX12_squares_18 ?_
  refine x_iadd (M := M_X12_squares) dX12_squares_19 ?_
  refine x_iconst (M := M_X12_squares) dX12_squares_20 ?_
  refine x_iload_n (M := M_X12_squares) dX12_squares_21 rfl ?_
  refine x_imul (M := M_X12_squares) dX12_squares_22 ?_
  refine x_iconst (M := M_X12_squares) dX12_squares_23 ?_
  refine x_iadd (M := M_X12_squares) dX12_squares_24 ?_
  refine x_norm (M := M_X12_squares) (st' := [.int (Int32.ofInt 4), .int (Int32.ofInt 4), .int (Int32.ofInt 10), .ref 277]) rfl (vi_cons (by decide +kernel : (((Int32.ofInt 3) * (Int32.ofInt 1)) + (Int32.ofInt 1)) = (Int32.ofInt 4)) (vi_cons (by decide +kernel : (((Int32.ofInt 3) * (Int32.ofInt 1)) + (Int32.ofInt 1)) = (Int32.ofInt 4)) (vi_cons (by decide +kernel : ((Int8.ofInt 10).toInt32) = (Int32.ofInt 10)) rfl))) rfl rfl rfl ?_
  have o10192 := (f10167 277 _ (by decide) o10163)
  refine y_callVR (M := M_X12_squares) (M' := M_X12_times) rfl rfl dX12_squares_25 m_X12_times t_3194 t_3196 s_219 (q10191 hl o10192 o10169 o10170) rfl rfl o10192 rfl (Nat.le_of_ble_eq_true rfl) (Nat.le_of_ble_eq_true rfl) (Nat.le_of_ble_eq_true rfl) (Nat.le_of_ble_eq_true rfl) (fun h10193 f10194 w10195 => ?_)
  obtain ⟨o10196, o10197, -⟩ := w10195
  refine x_aload_n (M := M_X12_squares) dX12_squares_28 rfl ?_
  refine x_iconst (M := M_X12_squares) dX12_squares_29 ?_
  refine x_iload_n (M := M_X12_squares) dX12_squares_30 rfl ?_
  refine x_imul (M := M_X12_squares) dX12_squares_31 ?_
  refine x_iconst (M := M_X12_squares) dX12_squares_32 ?_
  refine x_iadd (M := M_X12_squares) dX12_squares_33 ?_
  refine x_bipush (M := M_X12_squares) dX12_squares_34 ?_
  refine x_bipush (M := M_X12_squares) dX12_squares_36 ?_
  refine x_iconst (M := M_X12_squares) dX12_squares_38 ?_
  refine x_norm (M := M_X12_squares) (st' := [.int (Int32.ofInt 0), .int (Int32.ofInt 10), .int (Int32.ofInt 9), .int (Int32.ofInt 5), .ref 277]) rfl (v_cons (vi_cons (by decide +kernel : ((Int8.ofInt 10).toInt32) = (Int32.ofInt 10)) (vi_cons (by decide +kernel : ((Int8.ofInt 9).toInt32) = (Int32.ofInt 9)) (vi_cons (by decide +kernel : (((Int32.ofInt 3) * (Int32.ofInt 1)) + (Int32.ofInt 2)) = (Int32.ofInt 5)) rfl)))) rfl rfl rfl ?_
  have o10253 := (f10194 277 _ (by decide) o10192)
  have o10255 := (f10194 294 _ (by decide) (f10167 294 _ (by decide) o10254))
  refine y_callVR (M := M_X12_squares) (M' := M_X12_add) rfl rfl dX12_squares_39 m_X12_add t_3174 t_3176 s_214 (q10252 hl o10253 o10197 o10196 o10255) rfl rfl o10253 rfl (Nat.le_of_ble_eq_true rfl) (Nat.le_of_ble_eq_true rfl) (Nat.le_of_ble_eq_true rfl) (Nat.le_of_ble_eq_true rfl) (fun h10256 f10257 w10258 => ?_)
  obtain ⟨o10259, o10260, o10261, -⟩ := w10258
  exact x_vret (M := M_X12_squares) dX12_squares_42 rfl ⟨rfl, (fr_tr f10257 (by decide) (fr_tr f10194 (by decide) (fr_tr f10167 (by decide) fr_rf))), ⟨o10260, o10261, o10259, trivial⟩⟩ (Nat.le_of_ble_eq_true rfl) (Nat.le_of_ble_eq_true rfl)
set_option maxRecDepth 10000 in
theorem q10290 {l : Launch} {E : EE} (hl : l.stackTraces = false) {h : HP} {dg : Int32} (o10270 : ob h 277 = some (.inr (15, ((RB dg).set 0 (.int (Int32.ofInt 0)))))) (o10271 : ob h 295 = some (.inl (0, 20, .inl (fun _ => 0)))) (o10277 : ob h 296 = some (.inl (0, 20, .inl (fun _ => 0)))) : en_C l E M_X12_times 1 0 0 [.ref 277, .int (Int32.ofInt 9), .int (Int32.ofInt 6), .int (Int32.ofInt 6)] h (pF none [295, 296] h (fun h' => ob h' 295 = some (.inl (0, 20, .inl (fun _ => 0))) ∧ ob h' 296 = some (.inl (0, 20, .inl (fun _ => 0))) ∧ True)) := by
  refine en_mk m_X12_times rfl hl (Nat.le_of_ble_eq_true rfl) ?_
  refine x_aload_n (M := M_X12_times) dX12_times_0 rfl ?_
  refine x_getf (M := M_X12_times) (ci := 15) (C := RX12) (T := TX12) (N := 135) (ty := tyX12) cl15 dX12_times_1 o10270 37 (by decide) t_2428 (v := .ref 295) rfl ?_
  refine x_iload_n (M := M_X12_times) dX12_times_4 rfl ?_
  refine x_iald (M := M_X12_times) dX12_times_5 o10271 (vp_inD (by decide +kernel)) ?_
  refine x_top (M := M_X12_times) (y := (Int32.ofInt 0)) (by decide +kernel) ?_
  refine x_aload_n (M := M_X12_times) dX12_times_6 rfl ?_
  refine x_getf (M := M_X12_times) (ci := 15) (C := RX12) (T := TX12) (N := 135) (ty := tyX12) cl15 dX12_times_7 o10270 37 (by decide) t_2428 (v := .ref 295) rfl ?_
  refine x_iload_n (M := M_X12_times) dX12_times_10 rfl ?_
  refine x_iald (M := M_X12_times) dX12_times_11 o10271 (vp_inD (by decide +kernel)) ?_
  refine x_top (M := M_X12_times) (y := (Int32.ofInt 0)) (by decide +kernel) ?_
  refine x_iadd (M := M_X12_times) dX12_times_12 ?_
  refine x_top (M := M_X12_times) (y := (Int32.ofInt 0)) (by decide +kernel) ?_
  refine x_istore (M := M_X12_times) dX12_times_13 (Nat.le_of_ble_eq_true rfl) rfl ?_
  refine x_iconst (M := M_X12_times) dX12_times_15 ?_
  refine x_istore (M := M_X12_times) dX12_times_16 (Nat.le_of_ble_eq_true rfl) rfl ?_
  refine x_iload (M := M_X12_times) dX12_times_18 rfl ?_
  refine x_iload (M := M_X12_times) dX12_times_20 rfl ?_
  refine x_icmp_ge (M := M_X12_times) (tgt := 45) dX12_times_22 (by decide) (fun _ => ?_) (fun q => absurd q (by decide +kernel))
  refine x_iconst (M := M_X12_times) dX12_times_45 ?_
  refine x_istore (M := M_X12_times) dX12_times_46 (Nat.le_of_ble_eq_true rfl) rfl ?_
  refine x_iload (M := M_X12_times) dX12_times_48 rfl ?_
  refine x_aload_n (M := M_X12_times) dX12_times_50 rfl ?_
  refine x_getf (M := M_X12_times) (ci := 15) (C := RX12) (T := TX12) (N := 135) (ty := tyX12) cl15 dX12_times_51 o10270 37 (by decide) t_2428 (v := .ref 295) rfl ?_
  refine x_iload_n (M := M_X12_times) dX12_times_54 rfl ?_
  refine x_iald (M := M_X12_times) dX12_times_55 o10271 (vp_inD (by decide +kernel)) ?_
  refine x_top (M := M_X12_times) (y := (Int32.ofInt 0)) (by decide +kernel) ?_
  refine x_icmp_ge (M := M_X12_times) (tgt := 188) dX12_times_56 (by decide) (fun _ => ?_) (fun q => absurd q (by decide +kernel))
  refine x_aload_n (M := M_X12_times) dX12_times_188 rfl ?_
  refine x_getf (M := M_X12_times) (ci := 15) (C := RX12) (T := TX12) (N := 135) (ty := tyX12) cl15 dX12_times_189 o10270 37 (by decide) t_2428 (v := .ref 295) rfl ?_
  refine x_iload_n (M := M_X12_times) dX12_times_192 rfl ?_
  refine x_iload (M := M_X12_times) dX12_times_193 rfl ?_
  refine y_iast (M := M_X12_times) (k := 9) dX12_times_195 o10271 (vp_inD (by decide +kernel)) (by decide +kernel) (fun h10272 w10273 f10274 => ?_)
  have w10275 : ob h10272 295 = some (.inl (0, 20, .inl (fun _ => 0))) := by rw [w10273, up_z (k := 9)]
  refine x_aload_n (M := M_X12_times) dX12_times_196 rfl ?_
  have o10276 := (f10274 277 _ (by decide) o10270)
  refine x_getf (M := M_X12_times) (ci := 15) (C := RX12) (T := TX12) (N := 135) (ty := tyX12) cl15 dX12_times_197 o10276 38 (by decide) t_2429 (v := .ref 296) rfl ?_
  refine x_iload_n (M := M_X12_times) dX12_times_200 rfl ?_
  refine x_aload_n (M := M_X12_times) dX12_times_201 rfl ?_
  refine x_getf (M := M_X12_times) (ci := 15) (C := RX12) (T := TX12) (N := 135) (ty := tyX12) cl15 dX12_times_202 o10276 38 (by decide) t_2429 (v := .ref 296) rfl ?_
  refine x_iload_n (M := M_X12_times) dX12_times_205 rfl ?_
  have o10278 := (f10274 296 _ (by decide) o10277)
  refine x_iald (M := M_X12_times) dX12_times_206 o10278 (vp_inD (by decide +kernel)) ?_
  refine x_top (M := M_X12_times) (y := (Int32.ofInt 0)) (by decide +kernel) ?_
  refine x_aload_n (M := M_X12_times) dX12_times_207 rfl ?_
  refine x_getf (M := M_X12_times) (ci := 15) (C := RX12) (T := TX12) (N := 135) (ty := tyX12) cl15 dX12_times_208 o10276 38 (by decide) t_2429 (v := .ref 296) rfl ?_
  refine x_iload_n (M := M_X12_times) dX12_times_211 rfl ?_
  refine x_iald (M := M_X12_times) dX12_times_212 o10278 (vp_inD (by decide +kernel)) ?_
  refine x_top (M := M_X12_times) (y := (Int32.ofInt 0)) (by decide +kernel) ?_
  refine x_imul (M := M_X12_times) dX12_times_213 ?_
  refine x_norm (M := M_X12_times) (st' := [.int (Int32.ofInt 0), .int (Int32.ofInt 9), .ref 296]) rfl (vi_cons (by decide +kernel : ((Int32.ofInt 0) * (Int32.ofInt 0)) = (Int32.ofInt 0)) rfl) rfl rfl rfl ?_
  refine y_iast (M := M_X12_times) (k := 9) dX12_times_214 o10278 (vp_inD (by decide +kernel)) (by decide +kernel) (fun h10279 w10280 f10281 => ?_)
  have w10282 : ob h10279 296 = some (.inl (0, 20, .inl (fun _ => 0))) := by rw [w10280, up_z (k := 9)]
  refine x_aload_n (M := M_X12_times) dX12_times_215 rfl ?_
  refine x_iload_n (M := M_X12_times) dX12_times_216 rfl ?_
  have o10283 := (f10281 277 _ (by decide) o10276)
  have o10284 := (f10281 295 _ (by decide) w10275)
  refine y_callVR (M := M_X12_times) (M' := M_X12_trim) rfl rfl dX12_times_217 m_X12_trim t_3170 t_3172 s_213 (q10028 hl o10283 o10284 w10282) rfl rfl o10283 rfl (Nat.le_of_ble_eq_true rfl) (Nat.le_of_ble_eq_true rfl) (Nat.le_of_ble_eq_true rfl) (Nat.le_of_ble_eq_true rfl) (fun h10285 f10286 w10287 => ?_)
  obtain ⟨o10288, -⟩ := w10287
  have o10289 := (f10286 295 _ (by decide) o10284)
  exact x_vret (M := M_X12_times) dX12_times_220 rfl ⟨rfl, (fr_tr f10286 (by decide) (fr_tr f10281 (by decide) (fr_tr f10274 (by decide) fr_rf))), ⟨o10289, o10288, trivial⟩⟩ (Nat.le_of_ble_eq_true rfl) (Nat.le_of_ble_eq_true rfl)
set_option maxRecDepth 10000 in
theorem q10319 {l : Launch} {E : EE} (hl : l.stackTraces = false) {h : HP} {dg : Int32} (o10299 : ob h 277 = some (.inr (15, ((RB dg).set 0 (.int (Int32.ofInt 0)))))) (o10300 : ob h 295 = some (.inl (0, 20, .inl (fun _ => 0)))) (o10306 : ob h 296 = some (.inl (0, 20, .inl (fun _ => 0)))) : en_C l E M_X12_times 1 0 0 [.ref 277, .int (Int32.ofInt 10), .int (Int32.ofInt 7), .int (Int32.ofInt 7)] h (pF none [295, 296] h (fun h' => ob h' 295 = some (.inl (0, 20, .inl (fun _ => 0))) ∧ ob h' 296 = some (.inl (0, 20, .inl (fun _ => 0))) ∧ True)) := by
  refine en_mk m_X12_times rfl hl (Nat.le_of_ble_eq_true rfl) ?_
  refine x_aload_n (M := M_X12_times) dX12_times_0 rfl ?_
  refine x_getf (M := M_X12_times) (ci := 15) (C := RX12) (T := TX12) (N := 135) (ty := tyX12) cl15 dX12_times_1 o10299 37 (by decide) t_2428 (v := .ref 295) rfl ?_
  refine x_iload_n (M := M_X12_times) dX12_times_4 rfl ?_
  refine x_iald (M := M_X12_times) dX12_times_5 o10300 (vp_inD (by decide +kernel)) ?_
  refine x_top (M := M_X12_times) (y := (Int32.ofInt 0)) (by decide +kernel) ?_
  refine x_aload_n (M := M_X12_times) dX12_times_6 rfl ?_
  refine x_getf (M := M_X12_times) (ci := 15) (C := RX12) (T := TX12) (N := 135) (ty := tyX12) cl15 dX12_times_7 o10299 37 (by decide) t_2428 (v := .ref 295) rfl ?_
  refine x_iload_n (M := M_X12_times) dX12_times_10 rfl ?_
  refine x_iald (M := M_X12_times) dX12_times_11 o10300 (vp_inD (by decide +kernel)) ?_
  refine x_top (M := M_X12_times) (y := (Int32.ofInt 0)) (by decide +kernel) ?_
  refine x_iadd (M := M_X12_times) dX12_times_12 ?_
  refine x_top (M := M_X12_times) (y := (Int32.ofInt 0)) (by decide +kernel) ?_
  refine x_istore (M := M_X12_times) dX12_times_13 (Nat.le_of_ble_eq_true rfl) rfl ?_
  refine x_iconst (M := M_X12_times) dX12_times_15 ?_
  refine x_istore (M := M_X12_times) dX12_times_16 (Nat.le_of_ble_eq_true rfl) rfl ?_
  refine x_iload (M := M_X12_times) dX12_times_18 rfl ?_
  refine x_iload (M := M_X12_times) dX12_times_20 rfl ?_
  refine x_icmp_ge (M := M_X12_times) (tgt := 45) dX12_times_22 (by decide) (fun _ => ?_) (fun q => absurd q (by decide +kernel))
  refine x_iconst (M := M_X12_times) dX12_times_45 ?_
  refine x_istore (M := M_X12_times) dX12_times_46 (Nat.le_of_ble_eq_true rfl) rfl ?_
  refine x_iload (M := M_X12_times) dX12_times_48 rfl ?_
  refine x_aload_n (M := M_X12_times) dX12_times_50 rfl ?_
  refine x_getf (M := M_X12_times) (ci := 15) (C := RX12) (T := TX12) (N := 135) (ty := tyX12) cl15 dX12_times_51 o10299 37 (by decide) t_2428 (v := .ref 295) rfl ?_
  refine x_iload_n (M := M_X12_times) dX12_times_54 rfl ?_
  refine x_iald (M := M_X12_times) dX12_times_55 o10300 (vp_inD (by decide +kernel)) ?_
  refine x_top (M := M_X12_times) (y := (Int32.ofInt 0)) (by decide +kernel) ?_
  refine x_icmp_ge (M := M_X12_times) (tgt := 188) dX12_times_56 (by decide) (fun _ => ?_) (fun q => absurd q (by decide +kernel))
  refine x_aload_n (M := M_X12_times) dX12_times_188 rfl ?_
  refine x_getf (M := M_X12_times) (ci := 15) (C := RX12) (T := TX12) (N := 135) (ty := tyX12) cl15 dX12_times_189 o10299 37 (by decide) t_2428 (v := .ref 295) rfl ?_
  refine x_iload_n (M := M_X12_times) dX12_times_192 rfl ?_
  refine x_iload (M := M_X12_times) dX12_times_193 rfl ?_
  refine y_iast (M := M_X12_times) (k := 10) dX12_times_195 o10300 (vp_inD (by decide +kernel)) (by decide +kernel) (fun h10301 w10302 f10303 => ?_)
  have w10304 : ob h10301 295 = some (.inl (0, 20, .inl (fun _ => 0))) := by rw [w10302, up_z (k := 10)]
  refine x_aload_n (M := M_X12_times) dX12_times_196 rfl ?_
  have o10305 := (f10303 277 _ (by decide) o10299)
  refine x_getf (M := M_X12_times) (ci := 15) (C := RX12) (T := TX12) (N := 135) (ty := tyX12) cl15 dX12_times_197 o10305 38 (by decide) t_2429 (v := .ref 296) rfl ?_
  refine x_iload_n (M := M_X12_times) dX12_times_200 rfl ?_
  refine x_aload_n (M := M_X12_times) dX12_times_201 rfl ?_
  refine x_getf (M := M_X12_times) (ci := 15) (C := RX12) (T := TX12) (N := 135) (ty := tyX12) cl15 dX12_times_202 o10305 38 (by decide) t_2429 (v := .ref 296) rfl ?_
  refine x_iload_n (M := M_X12_times) dX12_times_205 rfl ?_
  have o10307 := (f10303 296 _ (by decide) o10306)
  refine x_iald (M := M_X12_times) dX12_times_206 o10307 (vp_inD (by decide +kernel)) ?_
  refine x_top (M := M_X12_times) (y := (Int32.ofInt 0)) (by decide +kernel) ?_
  refine x_aload_n (M := M_X12_times) dX12_times_207 rfl ?_
  refine x_getf (M := M_X12_times) (ci := 15) (C := RX12) (T := TX12) (N := 135) (ty := tyX12) cl15 dX12_times_208 o10305 38 (by decide) t_2429 (v := .ref 296) rfl ?_
  refine x_iload_n (M := M_X12_times) dX12_times_211 rfl ?_
  refine x_iald (M := M_X12_times) dX12_times_212 o10307 (vp_inD (by decide +kernel)) ?_
  refine x_top (M := M_X12_times) (y := (Int32.ofInt 0)) (by decide +kernel) ?_
  refine x_imul (M := M_X12_times) dX12_times_213 ?_
  refine x_norm (M := M_X12_times) (st' := [.int (Int32.ofInt 0), .int (Int32.ofInt 10), .ref 296]) rfl (vi_cons (by decide +kernel : ((Int32.ofInt 0) * (Int32.ofInt 0)) = (Int32.ofInt 0)) rfl) rfl rfl rfl ?_
  refine y_iast (M := M_X12_times) (k := 10) dX12_times_214 o10307 (vp_inD (by decide +kernel)) (by decide +kernel) (fun h10308 w10309 f10310 => ?_)
  have w10311 : ob h10308 296 = some (.inl (0, 20, .inl (fun _ => 0))) := by rw [w10309, up_z (k := 10)]
  refine x_aload_n (M := M_X12_times) dX12_times_215 rfl ?_
  refine x_iload_n (M := M_X12_times) dX12_times_216 rfl ?_
  have o10312 := (f10310 277 _ (by decide) o10305)
  have o10313 := (f10310 295 _ (by decide) w10304)
  refine y_callVR (M := M_X12_times) (M' := M_X12_trim) rfl rfl dX12_times_217 m_X12_trim t_3170 t_3172 s_213 (q10065 hl o10312 o10313 w10311) rfl rfl o10312 rfl (Nat.le_of_ble_eq_true rfl) (Nat.le_of_ble_eq_true rfl) (Nat.le_of_ble_eq_true rfl) (Nat.le_of_ble_eq_true rfl) (fun h10314 f10315 w10316 => ?_)
  obtain ⟨o10317, -⟩ := w10316
  have o10318 := (f10315 295 _ (by decide) o10313)
  exact x_vret (M := M_X12_times) dX12_times_220 rfl ⟨rfl, (fr_tr f10315 (by decide) (fr_tr f10310 (by decide) (fr_tr f10303 (by decide) fr_rf))), ⟨o10318, o10317, trivial⟩⟩ (Nat.le_of_ble_eq_true rfl) (Nat.le_of_ble_eq_true rfl)
set_option maxRecDepth 10000 in
theorem q10341 {l : Launch} {E : EE} (hl : l.stackTraces = false) {h : HP} {dg : Int32} (o10328 : ob h 277 = some (.inr (15, ((RB dg).set 0 (.int (Int32.ofInt 0)))))) (o10329 : ob h 295 = some (.inl (0, 20, .inl (fun _ => 0)))) (o10330 : ob h 294 = some (.inl (1, 6000, .inr (.inl (fun _ => 0))))) : en_C l E M_X12_addSizes 1 0 0 [.ref 277, .int (Int32.ofInt 8), .int (Int32.ofInt 9), .int (Int32.ofInt 10)] h (pF none [294, 295] h (fun h' => ob h' 294 = some (.inl (1, 6000, .inr (.inl (fun _ => 0)))) ∧ ob h' 295 = some (.inl (0, 20, .inl (upd (fun _ => 0) 8 (Int32.ofInt 1)))) ∧ True)) := by
  refine en_mk m_X12_addSizes rfl hl (Nat.le_of_ble_eq_true rfl) ?_
  refine x_aload_n (M := M_X12_addSizes) dX12_addSizes_0 rfl ?_
  refine x_getf (M := M_X12_addSizes) (ci := 15) (C := RX12) (T := TX12) (N := 135) (ty := tyX12) cl15 dX12_addSizes_1 o10328 37 (by decide) t_2428 (v := .ref 295) rfl ?_
  refine x_iload_n (M := M_X12_addSizes) dX12_addSizes_4 rfl ?_
  refine x_iald (M := M_X12_addSizes) dX12_addSizes_5 o10329 (vp_inD (by decide +kernel)) ?_
  refine x_top (M := M_X12_addSizes) (y := (Int32.ofInt 0)) (by decide +kernel) ?_
  refine x_aload_n (M := M_X12_addSizes) dX12_addSizes_6 rfl ?_
  refine x_getf (M := M_X12_addSizes) (ci := 15) (C := RX12) (T := TX12) (N := 135) (ty := tyX12) cl15 dX12_addSizes_7 o10328 37 (by decide) t_2428 (v := .ref 295) rfl ?_
  refine x_iload_n (M := M_X12_addSizes) dX12_addSizes_10 rfl ?_
  refine x_iald (M := M_X12_addSizes) dX12_addSizes_11 o10329 (vp_inD (by decide +kernel)) ?_
  refine x_top (M := M_X12_addSizes) (y := (Int32.ofInt 0)) (by decide +kernel) ?_
  refine x_icmp_le (M := M_X12_addSizes) (tgt := 24) dX12_addSizes_12 (by decide) (fun _ => ?_) (fun q => absurd q (by decide +kernel))
  refine x_aload_n (M := M_X12_addSizes) dX12_addSizes_24 rfl ?_
  refine x_getf (M := M_X12_addSizes) (ci := 15) (C := RX12) (T := TX12) (N := 135) (ty := tyX12) cl15 dX12_addSizes_25 o10328 37 (by decide) t_2428 (v := .ref 295) rfl ?_
  refine x_iload_n (M := M_X12_addSizes) dX12_addSizes_28 rfl ?_
  refine x_iald (M := M_X12_addSizes) dX12_addSizes_29 o10329 (vp_inD (by decide +kernel)) ?_
  refine x_top (M := M_X12_addSizes) (y := (Int32.ofInt 0)) (by decide +kernel) ?_
  refine x_iconst (M := M_X12_addSizes) dX12_addSizes_30 ?_
  refine x_iadd (M := M_X12_addSizes) dX12_addSizes_31 ?_
  refine x_top (M := M_X12_addSizes) (y := (Int32.ofInt 1)) (by decide +kernel) ?_
  refine x_istore (M := M_X12_addSizes) dX12_addSizes_32 (Nat.le_of_ble_eq_true rfl) rfl ?_
  refine x_lconst (M := M_X12_addSizes) dX12_addSizes_34 ?_
  refine x_topl (M := M_X12_addSizes) (y := (Int64.ofInt 0)) (by decide +kernel) ?_
  refine x_lstore (M := M_X12_addSizes) dX12_addSizes_35 (Nat.le_of_ble_eq_true rfl) rfl ?_
  refine x_iconst (M := M_X12_addSizes) dX12_addSizes_37 ?_
  refine x_istore (M := M_X12_addSizes) dX12_addSizes_38 (Nat.le_of_ble_eq_true rfl) rfl ?_
  refine x_iload (M := M_X12_addSizes) dX12_addSizes_40 rfl ?_
  refine x_iload (M := M_X12_addSizes) dX12_addSizes_42 rfl ?_
  refine x_icmp_ge (M := M_X12_addSizes) (tgt := 99) dX12_addSizes_44 (by decide) (fun q => absurd q (by decide +kernel)) (fun _ => ?_)
  refine x_lload (M := M_X12_addSizes) dX12_addSizes_47 rfl ?_
  refine x_aload_n (M := M_X12_addSizes) dX12_addSizes_49 rfl ?_
  refine x_iload_n (M := M_X12_addSizes) dX12_addSizes_50 rfl ?_
  refine x_iload (M := M_X12_addSizes) dX12_addSizes_51 rfl ?_
  refine x_callVR (M := M_X12_addSizes) (M' := M_X12_limb) rfl rfl dX12_addSizes_53 m_X12_limb t_3182 t_3184 s_216 (q10086 hl o10328 o10329) rfl rfl o10328 rfl (Nat.le_of_ble_eq_true rfl) (Nat.le_of_ble_eq_true rfl) (Nat.le_of_ble_eq_true rfl) (Nat.le_of_ble_eq_true rfl) ?_
  refine x_aload_n (M := M_X12_addSizes) dX12_addSizes_56 rfl ?_
  refine x_iload_n (M := M_X12_addSizes) dX12_addSizes_57 rfl ?_
  refine x_iload (M := M_X12_addSizes) dX12_addSizes_58 rfl ?_
  refine x_callVR (M := M_X12_addSizes) (M' := M_X12_limb) rfl rfl dX12_addSizes_60 m_X12_limb t_3182 t_3184 s_216 (q10089 hl o10328 o10329) rfl rfl o10328 rfl (Nat.le_of_ble_eq_true rfl) (Nat.le_of_ble_eq_true rfl) (Nat.le_of_ble_eq_true rfl) (Nat.le_of_ble_eq_true rfl) ?_
  refine x_ladd (M := M_X12_addSizes) dX12_addSizes_63 ?_
  refine x_ladd (M := M_X12_addSizes) dX12_addSizes_64 ?_
  refine x_topl (M := M_X12_addSizes) (y := (Int64.ofInt 0)) (by decide +kernel) ?_
  refine x_lstore (M := M_X12_addSizes) dX12_addSizes_65 (Nat.le_of_ble_eq_true rfl) rfl ?_
  refine x_aload_n (M := M_X12_addSizes) dX12_addSizes_67 rfl ?_
  refine x_getf (M := M_X12_addSizes) (ci := 15) (C := RX12) (T := TX12) (N := 135) (ty := tyX12) cl15 dX12_addSizes_68 o10328 36 (by decide) t_2427 (v := .ref 294) rfl ?_
  refine x_sipush (M := M_X12_addSizes) dX12_addSizes_71 ?_
  refine x_iload_n (M := M_X12_addSizes) dX12_addSizes_74 rfl ?_
  refine x_imul (M := M_X12_addSizes) dX12_addSizes_75 ?_
  refine x_iload (M := M_X12_addSizes) dX12_addSizes_76 rfl ?_
  refine x_iadd (M := M_X12_addSizes) dX12_addSizes_78 ?_
  refine x_lload (M := M_X12_addSizes) dX12_addSizes_79 rfl ?_
  refine x_ldc2 (M := M_X12_addSizes) dX12_addSizes_81 t_3169 ?_
  refine x_land (M := M_X12_addSizes) dX12_addSizes_84 ?_
  refine x_norm (M := M_X12_addSizes) (st' := [.long (Int64.ofInt 0), .int (Int32.ofInt 2400), .ref 294]) rfl (vj_cons (by decide +kernel : ((Int64.ofInt 0) &&& (4294967295 : Int64)) = (Int64.ofInt 0)) (vi_cons (by decide +kernel : ((((Int16.ofInt 300).toInt32) * (Int32.ofInt 8)) + (Int32.ofInt 0)) = (Int32.ofInt 2400)) rfl)) rfl rfl rfl ?_
  refine y_last (M := M_X12_addSizes) (k := 2400) dX12_addSizes_85 o10330 (vp_inD (by decide +kernel)) (by decide +kernel) (fun h10331 w10332 f10333 => ?_)
  have w10334 : ob h10331 294 = some (.inl (1, 6000, .inr (.inl (fun _ => 0)))) := by rw [w10332, uq_z (k := 2400)]
  refine x_lload (M := M_X12_addSizes) dX12_addSizes_86 rfl ?_
  refine x_bipush (M := M_X12_addSizes) dX12_addSizes_88 ?_
  refine x_lushr (M := M_X12_addSizes) dX12_addSizes_90 ?_
  refine x_topl (M := M_X12_addSizes) (y := (Int64.ofInt 0)) (by decide +kernel) ?_
  refine x_lstore (M := M_X12_addSizes) dX12_addSizes_91 (Nat.le_of_ble_eq_true rfl) rfl ?_
  refine x_lvs (M := M_X12_addSizes) (lv' := [some (.ref 277), some (.int (Int32.ofInt 8)), some (.int (Int32.ofInt 9)), some (.int (Int32.ofInt 10)), some (.int (Int32.ofInt 1)), some (.long (Int64.ofInt 0)), none, some (.int (Int32.ofInt 0))]) rfl ?_
  refine x_iinc (M := M_X12_addSizes) dX12_addSizes_93 rfl (Nat.le_of_ble_eq_true rfl) rfl ?_
  refine x_lvs (M := M_X12_addSizes) (lv' := [some (.ref 277), some (.int (Int32.ofInt 8)), some (.int (Int32.ofInt 9)), some (.int (Int32.ofInt 10)), some (.int (Int32.ofInt 1)), some (.long (Int64.ofInt 0)), none, some (.int (Int32.ofInt 1))]) (by rw [(by decide +kernel : (Int32.ofInt 0) + Int32.ofInt 1 = (Int32.ofInt 1))] <;> rfl) ?_
  refine x_goto (M := M_X12_addSizes) (tgt := 40) dX12_addSizes_96 (by decide) ?_
  refine x_iload (M := M_X12_addSizes) dX12_addSizes_40 rfl ?_
  refine x_iload (M := M_X12_addSizes) dX12_addSizes_42 rfl ?_
  refine x_icmp_ge (M := M_X12_addSizes) (tgt := 99) dX12_addSizes_44 (by decide) (fun _ => ?_) (fun q => absurd q (by decide +kernel))
  refine x_aload_n (M := M_X12_addSizes) dX12_addSizes_99 rfl ?_
  have o10335 := (f10333 277 _ (by decide) o10328)
  refine x_getf (M := M_X12_addSizes) (ci := 15) (C := RX12) (T := TX12) (N := 135) (ty := tyX12) cl15 dX12_addSizes_100 o10335 37 (by decide) t_2428 (v := .ref 295) rfl ?_
  refine x_iload_n (M := M_X12_addSizes) dX12_addSizes_103 rfl ?_
  refine x_iload (M := M_X12_addSizes) dX12_addSizes_104 rfl ?_
  have o10336 := (f10333 295 _ (by decide) o10329)
  refine y_iast (M := M_X12_addSizes) (k := 8) dX12_addSizes_106 o10336 (vp_inD (by decide +kernel)) (by decide +kernel) (fun h10337 w10338 f10339 => ?_)
  have o10340 := (f10339 294 _ (by decide) w10334)
  exact x_vret (M := M_X12_addSizes) dX12_addSizes_107 rfl ⟨rfl, (fr_tr f10339 (by decide) (fr_tr f10333 (by decide) fr_rf)), ⟨o10340, w10338, trivial⟩⟩ (Nat.le_of_ble_eq_true rfl) (Nat.le_of_ble_eq_true rfl)
set_option maxRecDepth 10000 in
theorem q10370 {l : Launch} {E : EE} (hl : l.stackTraces = false) {h : HP} {dg : Int32} (o10355 : ob h 277 = some (.inr (15, ((RB dg).set 0 (.int (Int32.ofInt 0)))))) (o10356 : ob h 295 = some (.inl (0, 20, .inl (upd (fun _ => 0) 8 (Int32.ofInt 1))))) (o10357 : ob h 294 = some (.inl (1, 6000, .inr (.inl (fun _ => 0))))) (o10363 : ob h 296 = some (.inl (0, 20, .inl (fun _ => 0)))) : en_C l E M_X12_trim 0 0 0 [.ref 277, .int (Int32.ofInt 8)] h (pF none [295, 296] h (fun h' => ob h' 295 = some (.inl (0, 20, .inl (fun _ => 0))) ∧ ob h' 296 = some (.inl (0, 20, .inl (fun _ => 0))) ∧ True)) := by
  refine en_mk m_X12_trim rfl hl (Nat.le_of_ble_eq_true rfl) ?_
  refine x_aload_n (M := M_X12_trim) dX12_trim_0 rfl ?_
  refine x_getf (M := M_X12_trim) (ci := 15) (C := RX12) (T := TX12) (N := 135) (ty := tyX12) cl15 dX12_trim_1 o10355 37 (by decide) t_2428 (v := .ref 295) rfl ?_
  refine x_iload_n (M := M_X12_trim) dX12_trim_4 rfl ?_
  refine x_iald (M := M_X12_trim) dX12_trim_5 o10356 (vp_inD (by decide +kernel)) ?_
  refine x_top (M := M_X12_trim) (y := (Int32.ofInt 1)) (by decide +kernel) ?_
  refine x_if_le (M := M_X12_trim) (tgt := 46) dX12_trim_6 (by decide) (fun q => absurd q (by decide +kernel)) (fun _ => ?_)
  refine x_aload_n (M := M_X12_trim) dX12_trim_9 rfl ?_
  refine x_getf (M := M_X12_trim) (ci := 15) (C := RX12) (T := TX12) (N := 135) (ty := tyX12) cl15 dX12_trim_10 o10355 36 (by decide) t_2427 (v := .ref 294) rfl ?_
  refine x_sipush (M := M_X12_trim) dX12_trim_13 ?_
  refine x_iload_n (M := M_X12_trim) dX12_trim_16 rfl ?_
  refine x_imul (M := M_X12_trim) dX12_trim_17 ?_
  refine x_aload_n (M := M_X12_trim) dX12_trim_18 rfl ?_
  refine x_getf (M := M_X12_trim) (ci := 15) (C := RX12) (T := TX12) (N := 135) (ty := tyX12) cl15 dX12_trim_19 o10355 37 (by decide) t_2428 (v := .ref 295) rfl ?_
  refine x_iload_n (M := M_X12_trim) dX12_trim_22 rfl ?_
  refine x_iald (M := M_X12_trim) dX12_trim_23 o10356 (vp_inD (by decide +kernel)) ?_
  refine x_top (M := M_X12_trim) (y := (Int32.ofInt 1)) (by decide +kernel) ?_
  refine x_iadd (M := M_X12_trim) dX12_trim_24 ?_
  refine x_iconst (M := M_X12_trim) dX12_trim_25 ?_
  refine x_isub (M := M_X12_trim) dX12_trim_26 ?_
  refine x_lald (M := M_X12_trim) dX12_trim_27 o10357 (vp_inD (by decide +kernel)) ?_
  refine x_topl (M := M_X12_trim) (y := (Int64.ofInt 0)) (by decide +kernel) ?_
  refine x_lconst (M := M_X12_trim) dX12_trim_28 ?_
  refine x_lcmp (M := M_X12_trim) dX12_trim_29 ?_
  refine x_if_ne (M := M_X12_trim) (tgt := 46) dX12_trim_30 (by decide) (fun q => absurd q (by decide +kernel)) (fun _ => ?_)
  refine x_aload_n (M := M_X12_trim) dX12_trim_33 rfl ?_
  refine x_getf (M := M_X12_trim) (ci := 15) (C := RX12) (T := TX12) (N := 135) (ty := tyX12) cl15 dX12_trim_34 o10355 37 (by decide) t_2428 (v := .ref 295) rfl ?_
  refine x_iload_n (M := M_X12_trim) dX12_trim_37 rfl ?_
  refine x_dup2 (M := M_X12_trim) dX12_trim_38 rfl rfl ?_
  refine x_iald (M := M_X12_trim) dX12_trim_39 o10356 (vp_inD (by decide +kernel)) ?_
  refine x_top (M := M_X12_trim) (y := (Int32.ofInt 1)) (by decide +kernel) ?_
  refine x_iconst (M := M_X12_trim) dX12_trim_40 ?_
  refine x_isub (M := M_X12_trim) dX12_trim_41 ?_
  refine x_norm (M := M_X12_trim) (st' := [.int (Int32.ofInt 0), .int (Int32.ofInt 8), .ref 295]) rfl (vi_cons (by decide +kernel : ((Int32.ofInt 1) - (Int32.ofInt 1)) = (Int32.ofInt 0)) rfl) rfl rfl rfl ?_
  refine y_iast (M := M_X12_trim) (k := 8) dX12_trim_42 o10356 (vp_inD (by decide +kernel)) (by decide +kernel) (fun h10358 w10359 f10360 => ?_)
  have w10361 : ob h10358 295 = some (.inl (0, 20, .inl (fun _ => 0))) := by rw [w10359, up_up (k := 8), up_z (k := 8)]
  refine x_goto (M := M_X12_trim) (tgt := 0) dX12_trim_43 (by decide) ?_
  refine x_aload_n (M := M_X12_trim) dX12_trim_0 rfl ?_
  have o10362 := (f10360 277 _ (by decide) o10355)
  refine x_getf (M := M_X12_trim) (ci := 15) (C := RX12) (T := TX12) (N := 135) (ty := tyX12) cl15 dX12_trim_1 o10362 37 (by decide) t_2428 (v := .ref 295) rfl ?_
  refine x_iload_n (M := M_X12_trim) dX12_trim_4 rfl ?_
  refine x_iald (M := M_X12_trim) dX12_trim_5 w10361 (vp_inD (by decide +kernel)) ?_
  refine x_top (M := M_X12_trim) (y := (Int32.ofInt 0)) (by decide +kernel) ?_
  refine x_if_le (M := M_X12_trim) (tgt := 46) dX12_trim_6 (by decide) (fun _ => ?_) (fun q => absurd q (by decide +kernel))
  refine x_aload_n (M := M_X12_trim) dX12_trim_46 rfl ?_
  refine x_getf (M := M_X12_trim) (ci := 15) (C := RX12) (T := TX12) (N := 135) (ty := tyX12) cl15 dX12_trim_47 o10362 37 (by decide) t_2428 (v := .ref 295) rfl ?_
  refine x_iload_n (M := M_X12_trim) dX12_trim_50 rfl ?_
  refine x_iald (M := M_X12_trim) dX12_trim_51 w10361 (vp_inD (by decide +kernel)) ?_
  refine x_top (M := M_X12_trim) (y := (Int32.ofInt 0)) (by decide +kernel) ?_
  refine x_if_ne (M := M_X12_trim) (tgt := 62) dX12_trim_52 (by decide) (fun q => absurd q (by decide +kernel)) (fun _ => ?_)
  refine x_aload_n (M := M_X12_trim) dX12_trim_55 rfl ?_
  refine x_getf (M := M_X12_trim) (ci := 15) (C := RX12) (T := TX12) (N := 135) (ty := tyX12) cl15 dX12_trim_56 o10362 38 (by decide) t_2429 (v := .ref 296) rfl ?_
  refine x_iload_n (M := M_X12_trim) dX12_trim_59 rfl ?_
  refine x_iconst (M := M_X12_trim) dX12_trim_60 ?_
  have o10364 := (f10360 296 _ (by decide) o10363)
  refine y_iast (M := M_X12_trim) (k := 8) dX12_trim_61 o10364 (vp_inD (by decide +kernel)) (by decide +kernel) (fun h10365 w10366 f10367 => ?_)
  have w10368 : ob h10365 296 = some (.inl (0, 20, .inl (fun _ => 0))) := by rw [w10366, up_z (k := 8)]
  have o10369 := (f10367 295 _ (by decide) w10361)
  exact x_vret (M := M_X12_trim) dX12_trim_62 rfl ⟨rfl, (fr_tr f10367 (by decide) (fr_tr f10360 (by decide) fr_rf)), ⟨o10369, w10368, trivial⟩⟩ (Nat.le_of_ble_eq_true rfl) (Nat.le_of_ble_eq_true rfl)
set_option maxRecDepth 10000 in
theorem q10380 {l : Launch} {E : EE} (hl : l.stackTraces = false) {h : HP} {dg : Int32} (o10326 : ob h 277 = some (.inr (15, ((RB dg).set 0 (.int (Int32.ofInt 0)))))) (o10327 : ob h 296 = some (.inl (0, 20, .inl (fun _ => 0)))) (o10342 : ob h 295 = some (.inl (0, 20, .inl (fun _ => 0)))) (o10343 : ob h 294 = some (.inl (1, 6000, .inr (.inl (fun _ => 0))))) : en_C l E M_X12_add 2 0 0 [.ref 277, .int (Int32.ofInt 8), .int (Int32.ofInt 9), .int (Int32.ofInt 10), .int (Int32.ofInt 0)] h (pF none [294, 295, 296] h (fun h' => ob h' 294 = some (.inl (1, 6000, .inr (.inl (fun _ => 0)))) ∧ ob h' 295 = some (.inl (0, 20, .inl (fun _ => 0))) ∧ ob h' 296 = some (.inl (0, 20, .inl (fun _ => 0))) ∧ True)) := by
  refine en_mk m_X12_add rfl hl (Nat.le_of_ble_eq_true rfl) ?_
  refine x_aload_n (M := M_X12_add) dX12_add_0 rfl ?_
  refine x_getf (M := M_X12_add) (ci := 15) (C := RX12) (T := TX12) (N := 135) (ty := tyX12) cl15 dX12_add_1 o10326 38 (by decide) t_2429 (v := .ref 296) rfl ?_
  refine x_iload_n (M := M_X12_add) dX12_add_4 rfl ?_
  refine x_iald (M := M_X12_add) dX12_add_5 o10327 (vp_inD (by decide +kernel)) ?_
  refine x_top (M := M_X12_add) (y := (Int32.ofInt 0)) (by decide +kernel) ?_
  refine x_istore (M := M_X12_add) dX12_add_6 (Nat.le_of_ble_eq_true rfl) rfl ?_
  refine x_iload (M := M_X12_add) dX12_add_8 rfl ?_
  refine x_if_eq (M := M_X12_add) (tgt := 23) dX12_add_10 (by decide) (fun _ => ?_) (fun q => absurd q (by decide +kernel))
  refine x_aload_n (M := M_X12_add) dX12_add_23 rfl ?_
  refine x_getf (M := M_X12_add) (ci := 15) (C := RX12) (T := TX12) (N := 135) (ty := tyX12) cl15 dX12_add_24 o10326 38 (by decide) t_2429 (v := .ref 296) rfl ?_
  refine x_iload_n (M := M_X12_add) dX12_add_27 rfl ?_
  refine x_iald (M := M_X12_add) dX12_add_28 o10327 (vp_inD (by decide +kernel)) ?_
  refine x_top (M := M_X12_add) (y := (Int32.ofInt 0)) (by decide +kernel) ?_
  refine x_istore (M := M_X12_add) dX12_add_29 (Nat.le_of_ble_eq_true rfl) rfl ?_
  refine x_iload (M := M_X12_add) dX12_add_31 rfl ?_
  refine x_if_eq (M := M_X12_add) (tgt := 48) dX12_add_33 (by decide) (fun _ => ?_) (fun q => absurd q (by decide +kernel))
  refine x_aload_n (M := M_X12_add) dX12_add_48 rfl ?_
  refine x_iload_n (M := M_X12_add) dX12_add_49 rfl ?_
  refine x_iload_n (M := M_X12_add) dX12_add_50 rfl ?_
  refine x_iload_n (M := M_X12_add) dX12_add_51 rfl ?_
  refine y_callVR (M := M_X12_add) (M' := M_X12_addSizes) rfl rfl dX12_add_52 m_X12_addSizes t_3178 t_3180 s_215 (q10341 hl o10326 o10342 o10343) rfl rfl o10326 rfl (Nat.le_of_ble_eq_true rfl) (Nat.le_of_ble_eq_true rfl) (Nat.le_of_ble_eq_true rfl) (Nat.le_of_ble_eq_true rfl) (fun h10344 f10345 w10346 => ?_)
  obtain ⟨o10347, o10348, -⟩ := w10346
  refine x_aload_n (M := M_X12_add) dX12_add_55 rfl ?_
  have o10349 := (f10345 277 _ (by decide) o10326)
  refine x_getf (M := M_X12_add) (ci := 15) (C := RX12) (T := TX12) (N := 135) (ty := tyX12) cl15 dX12_add_56 o10349 38 (by decide) t_2429 (v := .ref 296) rfl ?_
  refine x_iload_n (M := M_X12_add) dX12_add_59 rfl ?_
  refine x_iload (M := M_X12_add) dX12_add_60 rfl ?_
  refine x_if_ne (M := M_X12_add) (tgt := 70) dX12_add_62 (by decide) (fun q => absurd q (by decide +kernel)) (fun _ => ?_)
  refine x_iload (M := M_X12_add) dX12_add_65 rfl ?_
  refine x_goto (M := M_X12_add) (tgt := 72) dX12_add_67 (by decide) ?_
  have o10350 := (f10345 296 _ (by decide) o10327)
  refine y_iast (M := M_X12_add) (k := 8) dX12_add_72 o10350 (vp_inD (by decide +kernel)) (by decide +kernel) (fun h10351 w10352 f10353 => ?_)
  have w10354 : ob h10351 296 = some (.inl (0, 20, .inl (fun _ => 0))) := by rw [w10352, up_z (k := 8)]
  refine x_goto (M := M_X12_add) (tgt := 118) dX12_add_73 (by decide) ?_
  refine x_aload_n (M := M_X12_add) dX12_add_118 rfl ?_
  refine x_iload_n (M := M_X12_add) dX12_add_119 rfl ?_
  have o10371 := (f10353 277 _ (by decide) o10349)
  have o10372 := (f10353 295 _ (by decide) o10348)
  have o10373 := (f10353 294 _ (by decide) o10347)
  refine y_callVR (M := M_X12_add) (M' := M_X12_trim) rfl rfl dX12_add_120 m_X12_trim t_3170 t_3172 s_213 (q10370 hl o10371 o10372 o10373 w10354) rfl rfl o10371 rfl (Nat.le_of_ble_eq_true rfl) (Nat.le_of_ble_eq_true rfl) (Nat.le_of_ble_eq_true rfl) (Nat.le_of_ble_eq_true rfl) (fun h10374 f10375 w10376 => ?_)
  obtain ⟨o10377, o10378, -⟩ := w10376
  have o10379 := (f10375 294 _ (by decide) o10373)
  exact x_vret (M := M_X12_add) dX12_add_123 rfl ⟨rfl, (fr_tr f10375 (by decide) (fr_tr f10353 (by decide) (fr_tr f10345 (by decide) fr_rf))), ⟨o10379, o10377, o10378, trivial⟩⟩ (Nat.le_of_ble_eq_true rfl) (Nat.le_of_ble_eq_true rfl)
set_option maxRecDepth 10000 in
theorem q10390 {l : Launch} {E : EE} (hl : l.stackTraces = false) {h : HP} {dg : Int32} (o10291 : ob h 277 = some (.inr (15, ((RB dg).set 0 (.int (Int32.ofInt 0)))))) (o10292 : ob h 295 = some (.inl (0, 20, .inl (fun _ => 0)))) (o10293 : ob h 296 = some (.inl (0, 20, .inl (fun _ => 0)))) (o10382 : ob h 294 = some (.inl (1, 6000, .inr (.inl (fun _ => 0))))) : en_C l E M_X12_squares 3 0 0 [.ref 277, .int (Int32.ofInt 2)] h (pF none [295, 296, 294] h (fun h' => ob h' 295 = some (.inl (0, 20, .inl (fun _ => 0))) ∧ ob h' 296 = some (.inl (0, 20, .inl (fun _ => 0))) ∧ ob h' 294 = some (.inl (1, 6000, .inr (.inl (fun _ => 0)))) ∧ True)) := by
  refine en_mk m_X12_squares rfl hl (Nat.le_of_ble_eq_true rfl) ?_
  refine x_aload_n (M := M_X12_squares) dX12_squares_0 rfl ?_
  refine x_bipush (M := M_X12_squares) dX12_squares_1 ?_
  refine x_iconst (M := M_X12_squares) dX12_squares_3 ?_
  refine x_iload_n (M := M_X12_squares) dX12_squares_4 rfl ?_
  refine x_imul (M := M_X12_squares) dX12_squares_5 ?_
  refine x_iconst (M := M_X12_squares) dX12_squares_6 ?_
  refine x_iload_n (M := M_X12_squares) dX12_squares_7 rfl ?_
  refine x_imul (M := M_X12_squares) dX12_squares_8 ?_
  refine x_norm (M := M_X12_squares) (st' := [.int (Int32.ofInt 6), .int (Int32.ofInt 6), .int (Int32.ofInt 9), .ref 277]) rfl (vi_cons (by decide +kernel : ((Int32.ofInt 3) * (Int32.ofInt 2)) = (Int32.ofInt 6)) (vi_cons (by decide +kernel : ((Int32.ofInt 3) * (Int32.ofInt 2)) = (Int32.ofInt 6)) (vi_cons (by decide +kernel : ((Int8.ofInt 9).toInt32) = (Int32.ofInt 9)) rfl))) rfl rfl rfl ?_
  refine y_callVR (M := M_X12_squares) (M' := M_X12_times) rfl rfl dX12_squares_9 m_X12_times t_3194 t_3196 s_219 (q10290 hl o10291 o10292 o10293) rfl rfl o10291 rfl (Nat.le_of_ble_eq_true rfl) (Nat.le_of_ble_eq_true rfl) (Nat.le_of_ble_eq_true rfl) (Nat.le_of_ble_eq_true rfl) (fun h10294 f10295 w10296 => ?_)
  obtain ⟨o10297, o10298, -⟩ := w10296
  refine x_aload_n (M := M_X12_squares) dX12_squares_12 rfl ?_
  refine x_bipush (M := M_X12_squares) dX12_squares_13 ?_
  refine x_iconst (M := M_X12_squares) dX12_squares_15 ?_
  refine x_iload_n (M := M_X12_squares) dX12_squares_16 rfl ?_
  refine x_imul (M := M_X12_squares) dX12_squares_17 ?_
  refine x_iconst (M := M_X12_squares) dX12_squares_18 ?_
  refine x_iadd (M := M_X12_squares) dX12_squares_19 ?_
  refine x_iconst (M := M_X12_squares) dX12_squares_20 ?_
  refine x_iload_n (M := M_X12_squares) dX12_squares_21 rfl ?_
  refine x_imul (M := M_X12_squares) dX12_squares_22 ?_
  refine x_iconst (M := M_X12_squares) dX12_squares_23 ?_
  refine x_iadd (M := M_X12_squares) dX12_squares_24 ?_
  refine x_norm (M := M_X12_squares) (st' := [.int (Int32.ofInt 7), .int (Int32.ofInt 7), .int (Int32.ofInt 10), .ref 277]) rfl (vi_cons (by decide +kernel : (((Int32.ofInt 3) * (Int32.ofInt 2)) + (Int32.ofInt 1)) = (Int32.ofInt 7)) (vi_cons (by decide +kernel : (((Int32.ofInt 3) * (Int32.ofInt 2)) + (Int32.ofInt 1)) = (Int32.ofInt 7)) (vi_cons (by decide +kernel : ((Int8.ofInt 10).toInt32) = (Int32.ofInt 10)) rfl))) rfl rfl rfl ?_
  have o10320 := (f10295 277 _ (by decide) o10291)
  refine y_callVR (M := M_X12_squares) (M' := M_X12_times) rfl rfl dX12_squares_25 m_X12_times t_3194 t_3196 s_219 (q10319 hl o10320 o10297 o10298) rfl rfl o10320 rfl (Nat.le_of_ble_eq_true rfl) (Nat.le_of_ble_eq_true rfl) (Nat.le_of_ble_eq_true rfl) (Nat.le_of_ble_eq_true rfl) (fun h10321 f10322 w10323 => ?_)
  obtain ⟨o10324, o10325, -⟩ := w10323
  refine x_aload_n (M := M_X12_squares) dX12_squares_28 rfl ?_
  refine x_iconst (M := M_X12_squares) dX12_squares_29 ?_
  refine x_iload_n (M := M_X12_squares) dX12_squares_30 rfl ?_
  refine x_imul (M := M_X12_squares) dX12_squares_31 ?_
  refine x_iconst (M := M_X12_squares) dX12_squares_32 ?_
  refine x_iadd (M := M_X12_squares) dX12_squares_33 ?_
  refine x_bipush (M := M_X12_squares) dX12_squares_34 ?_
  refine x_bipush (M := M_X12_squares) dX12_squares_36 ?_
  refine x_iconst (M := M_X12_squares) dX12_squares_38 ?_
  refine x_norm (M := M_X12_squares) (st' := [.int (Int32.ofInt 0), .int (Int32.ofInt 10), .int (Int32.ofInt 9), .int (Int32.ofInt 8), .ref 277]) rfl (v_cons (vi_cons (by decide +kernel : ((Int8.ofInt 10).toInt32) = (Int32.ofInt 10)) (vi_cons (by decide +kernel : ((Int8.ofInt 9).toInt32) = (Int32.ofInt 9)) (vi_cons (by decide +kernel : (((Int32.ofInt 3) * (Int32.ofInt 2)) + (Int32.ofInt 2)) = (Int32.ofInt 8)) rfl)))) rfl rfl rfl ?_
  have o10381 := (f10322 277 _ (by decide) o10320)
  have o10383 := (f10322 294 _ (by decide) (f10295 294 _ (by decide) o10382))
  refine y_callVR (M := M_X12_squares) (M' := M_X12_add) rfl rfl dX12_squares_39 m_X12_add t_3174 t_3176 s_214 (q10380 hl o10381 o10325 o10324 o10383) rfl rfl o10381 rfl (Nat.le_of_ble_eq_true rfl) (Nat.le_of_ble_eq_true rfl) (Nat.le_of_ble_eq_true rfl) (Nat.le_of_ble_eq_true rfl) (fun h10384 f10385 w10386 => ?_)
  obtain ⟨o10387, o10388, o10389, -⟩ := w10386
  exact x_vret (M := M_X12_squares) dX12_squares_42 rfl ⟨rfl, (fr_tr f10385 (by decide) (fr_tr f10322 (by decide) (fr_tr f10295 (by decide) fr_rf))), ⟨o10388, o10389, o10387, trivial⟩⟩ (Nat.le_of_ble_eq_true rfl) (Nat.le_of_ble_eq_true rfl)
set_option maxRecDepth 10000 in
theorem q10442 {l : Launch} {E : EE} (hl : l.stackTraces = false) {h : HP} {dg : Int32} (o10421 : ob h 277 = some (.inr (15, ((RB dg).set 0 (.int (Int32.ofInt 0)))))) (o10422 : ob h 295 = some (.inl (0, 20, .inl (upd (fun _ => 0) 15 (Int32.ofInt 2))))) (o10423 : ob h 294 = some (.inl (1, 6000, .inr (.inl (fun _ => 0))))) (o10435 : ob h 296 = some (.inl (0, 20, .inl (upd (fun _ => 0) 15 (Int32.ofInt 1))))) : en_C l E M_X12_trim 0 0 0 [.ref 277, .int (Int32.ofInt 15)] h (pF none [295, 296] h (fun h' => ob h' 295 = some (.inl (0, 20, .inl (fun _ => 0))) ∧ ob h' 296 = some (.inl (0, 20, .inl (fun _ => 0))) ∧ True)) := by
  refine en_mk m_X12_trim rfl hl (Nat.le_of_ble_eq_true rfl) ?_
  refine x_aload_n (M := M_X12_trim) dX12_trim_0 rfl ?_
  refine x_getf (M := M_X12_trim) (ci := 15) (C := RX12) (T := TX12) (N := 135) (ty := tyX12) cl15 dX12_trim_1 o10421 37 (by decide) t_2428 (v := .ref 295) rfl ?_
  refine x_iload_n (M := M_X12_trim) dX12_trim_4 rfl ?_
  refine x_iald (M := M_X12_trim) dX12_trim_5 o10422 (vp_inD (by decide +kernel)) ?_
  refine x_top (M := M_X12_trim) (y := (Int32.ofInt 2)) (by decide +kernel) ?_
  refine x_if_le (M := M_X12_trim) (tgt := 46) dX12_trim_6 (by decide) (fun q => absurd q (by decide +kernel)) (fun _ => ?_)
  refine x_aload_n (M := M_X12_trim) dX12_trim_9 rfl ?_
  refine x_getf (M := M_X12_trim) (ci := 15) (C := RX12) (T := TX12) (N := 135) (ty := tyX12) cl15 dX12_trim_10 o10421 36 (by decide) t_2427 (v := .ref 294) rfl ?_
  refine x_sipush (M := M_X12_trim) dX12_trim_13 ?_
  refine x_iload_n (M := M_X12_trim) dX12_trim_16 rfl ?_
  refine x_imul (M := M_X12_trim) dX12_trim_17 ?_
  refine x_aload_n (M := M_X12_trim) dX12_trim_18 rfl ?_
  refine x_getf (M := M_X12_trim) (ci := 15) (C := RX12) (T := TX12) (N := 135) (ty := tyX12) cl15 dX12_trim_19 o10421 37 (by decide) t_2428 (v := .ref 295) rfl ?_
  refine x_iload_n (M := M_X12_trim) dX12_trim_22 rfl ?_
  refine x_iald (M := M_X12_trim) dX12_trim_23 o10422 (vp_inD (by decide +kernel)) ?_
  refine x_top (M := M_X12_trim) (y := (Int32.ofInt 2)) (by decide +kernel) ?_
  refine x_iadd (M := M_X12_trim) dX12_trim_24 ?_
  refine x_iconst (M := M_X12_trim) dX12_trim_25 ?_
  refine x_isub (M := M_X12_trim) dX12_trim_26 ?_
  refine x_lald (M := M_X12_trim) dX12_trim_27 o10423 (vp_inD (by decide +kernel)) ?_
  refine x_topl (M := M_X12_trim) (y := (Int64.ofInt 0)) (by decide +kernel) ?_
  refine x_lconst (M := M_X12_trim) dX12_trim_28 ?_
  refine x_lcmp (M := M_X12_trim) dX12_trim_29 ?_
  refine x_if_ne (M := M_X12_trim) (tgt := 46) dX12_trim_30 (by decide) (fun q => absurd q (by decide +kernel)) (fun _ => ?_)
  refine x_aload_n (M := M_X12_trim) dX12_trim_33 rfl ?_
  refine x_getf (M := M_X12_trim) (ci := 15) (C := RX12) (T := TX12) (N := 135) (ty := tyX12) cl15 dX12_trim_34 o10421 37 (by decide) t_2428 (v := .ref 295) rfl ?_
  refine x_iload_n (M := M_X12_trim) dX12_trim_37 rfl ?_
  refine x_dup2 (M := M_X12_trim) dX12_trim_38 rfl rfl ?_
  refine x_iald (M := M_X12_trim) dX12_trim_39 o10422 (vp_inD (by decide +kernel)) ?_
  refine x_top (M := M_X12_trim) (y := (Int32.ofInt 2)) (by decide +kernel) ?_
  refine x_iconst (M := M_X12_trim) dX12_trim_40 ?_
  refine x_isub (M := M_X12_trim) dX12_trim_41 ?_
  refine x_norm (M := M_X12_trim) (st' := [.int (Int32.ofInt 1), .int (Int32.ofInt 15), .ref 295]) rfl (vi_cons (by decide +kernel : ((Int32.ofInt 2) - (Int32.ofInt 1)) = (Int32.ofInt 1)) rfl) rfl rfl rfl ?_
  refine y_iast (M := M_X12_trim) (k := 15) dX12_trim_42 o10422 (vp_inD (by decide +kernel)) (by decide +kernel) (fun h10424 w10425 f10426 => ?_)
  have w10427 : ob h10424 295 = some (.inl (0, 20, .inl (upd (fun _ => 0) 15 (Int32.ofInt 1)))) := by rw [w10425, up_up (k := 15)]
  refine x_goto (M := M_X12_trim) (tgt := 0) dX12_trim_43 (by decide) ?_
  refine x_aload_n (M := M_X12_trim) dX12_trim_0 rfl ?_
  have o10428 := (f10426 277 _ (by decide) o10421)
  refine x_getf (M := M_X12_trim) (ci := 15) (C := RX12) (T := TX12) (N := 135) (ty := tyX12) cl15 dX12_trim_1 o10428 37 (by decide) t_2428 (v := .ref 295) rfl ?_
  refine x_iload_n (M := M_X12_trim) dX12_trim_4 rfl ?_
  refine x_iald (M := M_X12_trim) dX12_trim_5 w10427 (vp_inD (by decide +kernel)) ?_
  refine x_top (M := M_X12_trim) (y := (Int32.ofInt 1)) (by decide +kernel) ?_
  refine x_if_le (M := M_X12_trim) (tgt := 46) dX12_trim_6 (by decide) (fun q => absurd q (by decide +kernel)) (fun _ => ?_)
  refine x_aload_n (M := M_X12_trim) dX12_trim_9 rfl ?_
  refine x_getf (M := M_X12_trim) (ci := 15) (C := RX12) (T := TX12) (N := 135) (ty := tyX12) cl15 dX12_trim_10 o10428 36 (by decide) t_2427 (v := .ref 294) rfl ?_
  refine x_sipush (M := M_X12_trim) dX12_trim_13 ?_
  refine x_iload_n (M := M_X12_trim) dX12_trim_16 rfl ?_
  refine x_imul (M := M_X12_trim) dX12_trim_17 ?_
  refine x_aload_n (M := M_X12_trim) dX12_trim_18 rfl ?_
  refine x_getf (M := M_X12_trim) (ci := 15) (C := RX12) (T := TX12) (N := 135) (ty := tyX12) cl15 dX12_trim_19 o10428 37 (by decide) t_2428 (v := .ref 295) rfl ?_
  refine x_iload_n (M := M_X12_trim) dX12_trim_22 rfl ?_
  refine x_iald (M := M_X12_trim) dX12_trim_23 w10427 (vp_inD (by decide +kernel)) ?_
  refine x_top (M := M_X12_trim) (y := (Int32.ofInt 1)) (by decide +kernel) ?_
  refine x_iadd (M := M_X12_trim) dX12_trim_24 ?_
  refine x_iconst (M := M_X12_trim) dX12_trim_25 ?_
  refine x_isub (M := M_X12_trim) dX12_trim_26 ?_
  have o10429 := (f10426 294 _ (by decide) o10423)
  refine x_lald (M := M_X12_trim) dX12_trim_27 o10429 (vp_inD (by decide +kernel)) ?_
  refine x_topl (M := M_X12_trim) (y := (Int64.ofInt 0)) (by decide +kernel) ?_
  refine x_lconst (M := M_X12_trim) dX12_trim_28 ?_
  refine x_lcmp (M := M_X12_trim) dX12_trim_29 ?_
  refine x_if_ne (M := M_X12_trim) (tgt := 46) dX12_trim_30 (by decide) (fun q => absurd q (by decide +kernel)) (fun _ => ?_)
  refine x_aload_n (M := M_X12_trim) dX12_trim_33 rfl ?_
  refine x_getf (M := M_X12_trim) (ci := 15) (C := RX12) (T := TX12) (N := 135) (ty := tyX12) cl15 dX12_trim_34 o10428 37 (by decide) t_2428 (v := .ref 295) rfl ?_
  refine x_iload_n (M := M_X12_trim) dX12_trim_37 rfl ?_
  refine x_dup2 (M := M_X12_trim) dX12_trim_38 rfl rfl ?_
  refine x_iald (M := M_X12_trim) dX12_trim_39 w10427 (vp_inD (by decide +kernel)) ?_
  refine x_top (M := M_X12_trim) (y := (Int32.ofInt 1)) (by decide +kernel) ?_
  refine x_iconst (M := M_X12_trim) dX12_trim_40 ?_
  refine x_isub (M := M_X12_trim) dX12_trim_41 ?_
  refine x_norm (M := M_X12_trim) (st' := [.int (Int32.ofInt 0), .int (Int32.ofInt 15), .ref 295]) rfl (vi_cons (by decide +kernel : ((Int32.ofInt 1) - (Int32.ofInt 1)) = (Int32.ofInt 0)) rfl) rfl rfl rfl ?_
  refine y_iast (M := M_X12_trim) (k := 15) dX12_trim_42 w10427 (vp_inD (by decide +kernel)) (by decide +kernel) (fun h10430 w10431 f10432 => ?_)
  have w10433 : ob h10430 295 = some (.inl (0, 20, .inl (fun _ => 0))) := by rw [w10431, up_up (k := 15), up_z (k := 15)]
  refine x_goto (M := M_X12_trim) (tgt := 0) dX12_trim_43 (by decide) ?_
  refine x_aload_n (M := M_X12_trim) dX12_trim_0 rfl ?_
  have o10434 := (f10432 277 _ (by decide) o10428)
  refine x_getf (M := M_X12_trim) (ci := 15) (C := RX12) (T := TX12) (N := 135) (ty := tyX12) cl15 dX12_trim_1 o10434 37 (by decide) t_2428 (v := .ref 295) rfl ?_
  refine x_iload_n (M := M_X12_trim) dX12_trim_4 rfl ?_
  refine x_iald (M := M_X12_trim) dX12_trim_5 w10433 (vp_inD (by decide +kernel)) ?_
  refine x_top (M := M_X12_trim) (y := (Int32.ofInt 0)) (by decide +kernel) ?_
  refine x_if_le (M := M_X12_trim) (tgt := 46) dX12_trim_6 (by decide) (fun _ => ?_) (fun q => absurd q (by decide +kernel))
  refine x_aload_n (M := M_X12_trim) dX12_trim_46 rfl ?_
  refine x_getf (M := M_X12_trim) (ci := 15) (C := RX12) (T := TX12) (N := 135) (ty := tyX12) cl15 dX12_trim_47 o10434 37 (by decide) t_2428 (v := .ref 295) rfl ?_
  refine x_iload_n (M := M_X12_trim) dX12_trim_50 rfl ?_
  refine x_iald (M := M_X12_trim) dX12_trim_51 w10433 (vp_inD (by decide +kernel)) ?_
  refine x_top (M := M_X12_trim) (y := (Int32.ofInt 0)) (by decide +kernel) ?_
  refine x_if_ne (M := M_X12_trim) (tgt := 62) dX12_trim_52 (by decide) (fun q => absurd q (by decide +kernel)) (fun _ => ?_)
  refine x_aload_n (M := M_X12_trim) dX12_trim_55 rfl ?_
  refine x_getf (M := M_X12_trim) (ci := 15) (C := RX12) (T := TX12) (N := 135) (ty := tyX12) cl15 dX12_trim_56 o10434 38 (by decide) t_2429 (v := .ref 296) rfl ?_
  refine x_iload_n (M := M_X12_trim) dX12_trim_59 rfl ?_
  refine x_iconst (M := M_X12_trim) dX12_trim_60 ?_
  have o10436 := (f10432 296 _ (by decide) (f10426 296 _ (by decide) o10435))
  refine y_iast (M := M_X12_trim) (k := 15) dX12_trim_61 o10436 (vp_inD (by decide +kernel)) (by decide +kernel) (fun h10437 w10438 f10439 => ?_)
  have w10440 : ob h10437 296 = some (.inl (0, 20, .inl (fun _ => 0))) := by rw [w10438, up_up (k := 15), up_z (k := 15)]
  have o10441 := (f10439 295 _ (by decide) w10433)
  exact x_vret (M := M_X12_trim) dX12_trim_62 rfl ⟨rfl, (fr_tr f10439 (by decide) (fr_tr f10432 (by decide) (fr_tr f10426 (by decide) fr_rf))), ⟨o10441, w10440, trivial⟩⟩ (Nat.le_of_ble_eq_true rfl) (Nat.le_of_ble_eq_true rfl)
set_option maxRecDepth 10000 in
theorem q10452 {l : Launch} {E : EE} (hl : l.stackTraces = false) {h : HP} {dg : Int32} (o10398 : ob h 277 = some (.inr (15, ((RB dg).set 0 (.int (Int32.ofInt 0)))))) (o10399 : ob h 294 = some (.inl (1, 6000, .inr (.inl (fun _ => 0))))) (o10410 : ob h 295 = some (.inl (0, 20, .inl (fun _ => 0)))) (o10416 : ob h 296 = some (.inl (0, 20, .inl (fun _ => 0)))) : en_C l E M_X12_set 1 0 0 [.ref 277, .int (Int32.ofInt 15), .long (Int64.ofInt 0)] h (pF none [294, 295, 296] h (fun h' => ob h' 294 = some (.inl (1, 6000, .inr (.inl (fun _ => 0)))) ∧ ob h' 295 = some (.inl (0, 20, .inl (fun _ => 0))) ∧ ob h' 296 = some (.inl (0, 20, .inl (fun _ => 0))) ∧ True)) := by
  refine en_mk m_X12_set rfl hl (Nat.le_of_ble_eq_true rfl) ?_
  refine x_lload_n (M := M_X12_set) dX12_set_0 rfl ?_
  refine x_lconst (M := M_X12_set) dX12_set_1 ?_
  refine x_lcmp (M := M_X12_set) dX12_set_2 ?_
  refine x_if_ge (M := M_X12_set) (tgt := 11) dX12_set_3 (by decide) (fun _ => ?_) (fun q => absurd q (by decide +kernel))
  refine x_lload_n (M := M_X12_set) dX12_set_11 rfl ?_
  refine x_lstore (M := M_X12_set) dX12_set_12 (Nat.le_of_ble_eq_true rfl) rfl ?_
  refine x_aload_n (M := M_X12_set) dX12_set_14 rfl ?_
  refine x_getf (M := M_X12_set) (ci := 15) (C := RX12) (T := TX12) (N := 135) (ty := tyX12) cl15 dX12_set_15 o10398 36 (by decide) t_2427 (v := .ref 294) rfl ?_
  refine x_sipush (M := M_X12_set) dX12_set_18 ?_
  refine x_iload_n (M := M_X12_set) dX12_set_21 rfl ?_
  refine x_imul (M := M_X12_set) dX12_set_22 ?_
  refine x_lload (M := M_X12_set) dX12_set_23 rfl ?_
  refine x_ldc2 (M := M_X12_set) dX12_set_25 t_3169 ?_
  refine x_land (M := M_X12_set) dX12_set_28 ?_
  refine x_norm (M := M_X12_set) (st' := [.long (Int64.ofInt 0), .int (Int32.ofInt 4500), .ref 294]) rfl (vj_cons (by decide +kernel : ((Int64.ofInt 0) &&& (4294967295 : Int64)) = (Int64.ofInt 0)) (vi_cons (by decide +kernel : (((Int16.ofInt 300).toInt32) * (Int32.ofInt 15)) = (Int32.ofInt 4500)) rfl)) rfl rfl rfl ?_
  refine y_last (M := M_X12_set) (k := 4500) dX12_set_29 o10399 (vp_inD (by decide +kernel)) (by decide +kernel) (fun h10400 w10401 f10402 => ?_)
  have w10403 : ob h10400 294 = some (.inl (1, 6000, .inr (.inl (fun _ => 0)))) := by rw [w10401, uq_z (k := 4500)]
  refine x_aload_n (M := M_X12_set) dX12_set_30 rfl ?_
  have o10404 := (f10402 277 _ (by decide) o10398)
  refine x_getf (M := M_X12_set) (ci := 15) (C := RX12) (T := TX12) (N := 135) (ty := tyX12) cl15 dX12_set_31 o10404 36 (by decide) t_2427 (v := .ref 294) rfl ?_
  refine x_sipush (M := M_X12_set) dX12_set_34 ?_
  refine x_iload_n (M := M_X12_set) dX12_set_37 rfl ?_
  refine x_imul (M := M_X12_set) dX12_set_38 ?_
  refine x_iconst (M := M_X12_set) dX12_set_39 ?_
  refine x_iadd (M := M_X12_set) dX12_set_40 ?_
  refine x_lload (M := M_X12_set) dX12_set_41 rfl ?_
  refine x_bipush (M := M_X12_set) dX12_set_43 ?_
  refine x_lushr (M := M_X12_set) dX12_set_45 ?_
  refine x_norm (M := M_X12_set) (st' := [.long (Int64.ofInt 0), .int (Int32.ofInt 4501), .ref 294]) rfl (vj_cons (by decide +kernel : (((Int64.ofInt 0).toUInt64 >>> (((Int8.ofInt 32).toInt32).toInt64.toUInt64 &&& Int64.toUInt64 63)).toInt64) = (Int64.ofInt 0)) (vi_cons (by decide +kernel : ((((Int16.ofInt 300).toInt32) * (Int32.ofInt 15)) + (Int32.ofInt 1)) = (Int32.ofInt 4501)) rfl)) rfl rfl rfl ?_
  refine y_last (M := M_X12_set) (k := 4501) dX12_set_46 w10403 (vp_inD (by decide +kernel)) (by decide +kernel) (fun h10405 w10406 f10407 => ?_)
  have w10408 : ob h10405 294 = some (.inl (1, 6000, .inr (.inl (fun _ => 0)))) := by rw [w10406, uq_z (k := 4501)]
  refine x_aload_n (M := M_X12_set) dX12_set_47 rfl ?_
  have o10409 := (f10407 277 _ (by decide) o10404)
  refine x_getf (M := M_X12_set) (ci := 15) (C := RX12) (T := TX12) (N := 135) (ty := tyX12) cl15 dX12_set_48 o10409 37 (by decide) t_2428 (v := .ref 295) rfl ?_
  refine x_iload_n (M := M_X12_set) dX12_set_51 rfl ?_
  refine x_iconst (M := M_X12_set) dX12_set_52 ?_
  have o10411 := (f10407 295 _ (by decide) (f10402 295 _ (by decide) o10410))
  refine y_iast (M := M_X12_set) (k := 15) dX12_set_53 o10411 (vp_inD (by decide +kernel)) (by decide +kernel) (fun h10412 w10413 f10414 => ?_)
  refine x_aload_n (M := M_X12_set) dX12_set_54 rfl ?_
  have o10415 := (f10414 277 _ (by decide) o10409)
  refine x_getf (M := M_X12_set) (ci := 15) (C := RX12) (T := TX12) (N := 135) (ty := tyX12) cl15 dX12_set_55 o10415 38 (by decide) t_2429 (v := .ref 296) rfl ?_
  refine x_iload_n (M := M_X12_set) dX12_set_58 rfl ?_
  refine x_lload_n (M := M_X12_set) dX12_set_59 rfl ?_
  refine x_lconst (M := M_X12_set) dX12_set_60 ?_
  refine x_lcmp (M := M_X12_set) dX12_set_61 ?_
  refine x_if_ge (M := M_X12_set) (tgt := 69) dX12_set_62 (by decide) (fun _ => ?_) (fun q => absurd q (by decide +kernel))
  refine x_iconst (M := M_X12_set) dX12_set_69 ?_
  have o10417 := (f10414 296 _ (by decide) (f10407 296 _ (by decide) (f10402 296 _ (by decide) o10416)))
  refine y_iast (M := M_X12_set) (k := 15) dX12_set_70 o10417 (vp_inD (by decide +kernel)) (by decide +kernel) (fun h10418 w10419 f10420 => ?_)
  refine x_aload_n (M := M_X12_set) dX12_set_71 rfl ?_
  refine x_iload_n (M := M_X12_set) dX12_set_72 rfl ?_
  have o10443 := (f10420 277 _ (by decide) o10415)
  have o10444 := (f10420 295 _ (by decide) w10413)
  have o10445 := (f10420 294 _ (by decide) (f10414 294 _ (by decide) w10408))
  refine y_callVR (M := M_X12_set) (M' := M_X12_trim) rfl rfl dX12_set_73 m_X12_trim t_3170 t_3172 s_213 (q10442 hl o10443 o10444 o10445 w10419) rfl rfl o10443 rfl (Nat.le_of_ble_eq_true rfl) (Nat.le_of_ble_eq_true rfl) (Nat.le_of_ble_eq_true rfl) (Nat.le_of_ble_eq_true rfl) (fun h10446 f10447 w10448 => ?_)
  obtain ⟨o10449, o10450, -⟩ := w10448
  have o10451 := (f10447 294 _ (by decide) o10445)
  exact x_vret (M := M_X12_set) dX12_set_76 rfl ⟨rfl, (fr_tr f10447 (by decide) (fr_tr f10420 (by decide) (fr_tr f10414 (by decide) (fr_tr f10407 (by decide) (fr_tr f10402 (by decide) fr_rf))))), ⟨o10451, o10449, o10450, trivial⟩⟩ (Nat.le_of_ble_eq_true rfl) (Nat.le_of_ble_eq_true rfl)
set_option maxRecDepth 10000 in
theorem q10483 {l : Launch} {E : EE} (hl : l.stackTraces = false) {h : HP} {dg : Int32} (o10463 : ob h 277 = some (.inr (15, ((RB dg).set 0 (.int (Int32.ofInt 0)))))) (o10464 : ob h 295 = some (.inl (0, 20, .inl (fun _ => 0)))) (o10470 : ob h 296 = some (.inl (0, 20, .inl (fun _ => 0)))) : en_C l E M_X12_times 1 0 0 [.ref 277, .int (Int32.ofInt 9), .int (Int32.ofInt 4), .int (Int32.ofInt 8)] h (pF none [295, 296] h (fun h' => ob h' 295 = some (.inl (0, 20, .inl (fun _ => 0))) ∧ ob h' 296 = some (.inl (0, 20, .inl (fun _ => 0))) ∧ True)) := by
  refine en_mk m_X12_times rfl hl (Nat.le_of_ble_eq_true rfl) ?_
  refine x_aload_n (M := M_X12_times) dX12_times_0 rfl ?_
  refine x_getf (M := M_X12_times) (ci := 15) (C := RX12) (T := TX12) (N := 135) (ty := tyX12) cl15 dX12_times_1 o10463 37 (by decide) t_2428 (v := .ref 295) rfl ?_
  refine x_iload_n (M := M_X12_times) dX12_times_4 rfl ?_
  refine x_iald (M := M_X12_times) dX12_times_5 o10464 (vp_inD (by decide +kernel)) ?_
  refine x_top (M := M_X12_times) (y := (Int32.ofInt 0)) (by decide +kernel) ?_
  refine x_aload_n (M := M_X12_times) dX12_times_6 rfl ?_
  refine x_getf (M := M_X12_times) (ci := 15) (C := RX12) (T := TX12) (N := 135) (ty := tyX12) cl15 dX12_times_7 o10463 37 (by decide) t_2428 (v := .ref 295) rfl ?_
  refine x_iload_n (M := M_X12_times) dX12_times_10 rfl ?_
  refine x_iald (M := M_X12_times) dX12_times_11 o10464 (vp_inD (by decide +kernel)) ?_
  refine x_top (M := M_X12_times) (y := (Int32.ofInt 0)) (by decide +kernel) ?_
  refine x_iadd (M := M_X12_times) dX12_times_12 ?_
  refine x_top (M := M_X12_times) (y := (Int32.ofInt 0)) (by decide +kernel) ?_
  refine x_istore (M := M_X12_times) dX12_times_13 (Nat.le_of_ble_eq_true rfl) rfl ?_
  refine x_iconst (M := M_X12_times) dX12_times_15 ?_
  refine x_istore (M := M_X12_times) dX12_times_16 (Nat.le_of_ble_eq_true rfl) rfl ?_
  refine x_iload (M := M_X12_times) dX12_times_18 rfl ?_
  refine x_iload (M := M_X12_times) dX12_times_20 rfl ?_
  refine x_icmp_ge (M := M_X12_times) (tgt := 45) dX12_times_22 (by decide) (fun _ => ?_) (fun q => absurd q (by decide +kernel))
  refine x_iconst (M := M_X12_times) dX12_times_45 ?_
  refine x_istore (M := M_X12_times) dX12_times_46 (Nat.le_of_ble_eq_true rfl) rfl ?_
  refine x_iload (M := M_X12_times) dX12_times_48 rfl ?_
  refine x_aload_n (M := M_X12_times) dX12_times_50 rfl ?_
  refine x_getf (M := M_X12_times) (ci := 15) (C := RX12) (T := TX12) (N := 135) (ty := tyX12) cl15 dX12_times_51 o10463 37 (by decide) t_2428 (v := .ref 295) rfl ?_
  refine x_iload_n (M := M_X12_times) dX12_times_54 rfl ?_
  refine x_iald (M := M_X12_times) dX12_times_55 o10464 (vp_inD (by decide +kernel)) ?_
  refine x_top (M := M_X12_times) (y := (Int32.ofInt 0)) (by decide +kernel) ?_
  refine x_icmp_ge (M := M_X12_times) (tgt := 188) dX12_times_56 (by decide) (fun _ => ?_) (fun q => absurd q (by decide +kernel))
  refine x_aload_n (M := M_X12_times) dX12_times_188 rfl ?_
  refine x_getf (M := M_X12_times) (ci := 15) (C := RX12) (T := TX12) (N := 135) (ty := tyX12) cl15 dX12_times_189 o10463 37 (by decide) t_2428 (v := .ref 295) rfl ?_
  refine x_iload_n (M := M_X12_times) dX12_times_192 rfl ?_
  refine x_iload (M := M_X12_times) dX12_times_193 rfl ?_
  refine y_iast (M := M_X12_times) (k := 9) dX12_times_195 o10464 (vp_inD (by decide +kernel)) (by decide +kernel) (fun h10465 w10466 f10467 => ?_)
  have w10468 : ob h10465 295 = some (.inl (0, 20, .inl (fun _ => 0))) := by rw [w10466, up_z (k := 9)]
  refine x_aload_n (M := M_X12_times) dX12_times_196 rfl ?_
  have o10469 := (f10467 277 _ (by decide) o10463)
  refine x_getf (M := M_X12_times) (ci := 15) (C := RX12) (T := TX12) (N := 135) (ty := tyX12) cl15 dX12_times_197 o10469 38 (by decide) t_2429 (v := .ref 296) rfl ?_
  refine x_iload_n (M := M_X12_times) dX12_times_200 rfl ?_
  refine x_aload_n (M := M_X12_times) dX12_times_201 rfl ?_
  refine x_getf (M := M_X12_times) (ci := 15) (C := RX12) (T := TX12) (N := 135) (ty := tyX12) cl15 dX12_times_202 o10469 38 (by decide) t_2429 (v := .ref 296) rfl ?_
  refine x_iload_n (M := M_X12_times) dX12_times_205 rfl ?_
  have o10471 := (f10467 296 _ (by decide) o10470)
  refine x_iald (M := M_X12_times) dX12_times_206 o10471 (vp_inD (by decide +kernel)) ?_
  refine x_top (M := M_X12_times) (y := (Int32.ofInt 0)) (by decide +kernel) ?_
  refine x_aload_n (M := M_X12_times) dX12_times_207 rfl ?_
  refine x_getf (M := M_X12_times) (ci := 15) (C := RX12) (T := TX12) (N := 135) (ty := tyX12) cl15 dX12_times_208 o10469 38 (by decide) t_2429 (v := .ref 296) rfl ?_
  refine x_iload_n (M := M_X12_times) dX12_times_211 rfl ?_
  refine x_iald (M := M_X12_times) dX12_times_212 o10471 (vp_inD (by decide +kernel)) ?_
  refine x_top (M := M_X12_times) (y := (Int32.ofInt 0)) (by decide +kernel) ?_
  refine x_imul (M := M_X12_times) dX12_times_213 ?_
  refine x_norm (M := M_X12_times) (st' := [.int (Int32.ofInt 0), .int (Int32.ofInt 9), .ref 296]) rfl (vi_cons (by decide +kernel : ((Int32.ofInt 0) * (Int32.ofInt 0)) = (Int32.ofInt 0)) rfl) rfl rfl rfl ?_
  refine y_iast (M := M_X12_times) (k := 9) dX12_times_214 o10471 (vp_inD (by decide +kernel)) (by decide +kernel) (fun h10472 w10473 f10474 => ?_)
  have w10475 : ob h10472 296 = some (.inl (0, 20, .inl (fun _ => 0))) := by rw [w10473, up_z (k := 9)]
  refine x_aload_n (M := M_X12_times) dX12_times_215 rfl ?_
  refine x_iload_n (M := M_X12_times) dX12_times_216 rfl ?_
  have o10476 := (f10474 277 _ (by decide) o10469)
  have o10477 := (f10474 295 _ (by decide) w10468)
  refine y_callVR (M := M_X12_times) (M' := M_X12_trim) rfl rfl dX12_times_217 m_X12_trim t_3170 t_3172 s_213 (q10028 hl o10476 o10477 w10475) rfl rfl o10476 rfl (Nat.le_of_ble_eq_true rfl) (Nat.le_of_ble_eq_true rfl) (Nat.le_of_ble_eq_true rfl) (Nat.le_of_ble_eq_true rfl) (fun h10478 f10479 w10480 => ?_)
  obtain ⟨o10481, -⟩ := w10480
  have o10482 := (f10479 295 _ (by decide) o10477)
  exact x_vret (M := M_X12_times) dX12_times_220 rfl ⟨rfl, (fr_tr f10479 (by decide) (fr_tr f10474 (by decide) (fr_tr f10467 (by decide) fr_rf))), ⟨o10482, o10481, trivial⟩⟩ (Nat.le_of_ble_eq_true rfl) (Nat.le_of_ble_eq_true rfl)
set_option maxRecDepth 10000 in
theorem q10510 {l : Launch} {E : EE} (hl : l.stackTraces = false) {h : HP} {dg : Int32} (o10490 : ob h 277 = some (.inr (15, ((RB dg).set 0 (.int (Int32.ofInt 0)))))) (o10491 : ob h 295 = some (.inl (0, 20, .inl (fun _ => 0)))) (o10497 : ob h 296 = some (.inl (0, 20, .inl (fun _ => 0)))) : en_C l E M_X12_times 1 0 0 [.ref 277, .int (Int32.ofInt 10), .int (Int32.ofInt 5), .int (Int32.ofInt 7)] h (pF none [295, 296] h (fun h' => ob h' 295 = some (.inl (0, 20, .inl (fun _ => 0))) ∧ ob h' 296 = some (.inl (0, 20, .inl (fun _ => 0))) ∧ True)) := by
  refine en_mk m_X12_times rfl hl (Nat.le_of_ble_eq_true rfl) ?_
  refine x_aload_n (M := M_X12_times) dX12_times_0 rfl ?_
  refine x_getf (M := M_X12_times) (ci := 15) (C := RX12) (T := TX12) (N := 135) (ty := tyX12) cl15 dX12_times_1 o10490 37 (by decide) t_2428 (v := .ref 295) rfl ?_
  refine x_iload_n (M := M_X12_times) dX12_times_4 rfl ?_
  refine x_iald (M := M_X12_times) dX12_times_5 o10491 (vp_inD (by decide +kernel)) ?_
  refine x_top (M := M_X12_times) (y := (Int32.ofInt 0)) (by decide +kernel) ?_
  refine x_aload_n (M := M_X12_times) dX12_times_6 rfl ?_
  refine x_getf (M := M_X12_times) (ci := 15) (C := RX12) (T := TX12) (N := 135) (ty := tyX12) cl15 dX12_times_7 o10490 37 (by decide) t_2428 (v := .ref 295) rfl ?_
  refine x_iload_n (M := M_X12_times) dX12_times_10 rfl ?_
  refine x_iald (M := M_X12_times) dX12_times_11 o10491 (vp_inD (by decide +kernel)) ?_
  refine x_top (M := M_X12_times) (y := (Int32.ofInt 0)) (by decide +kernel) ?_
  refine x_iadd (M := M_X12_times) dX12_times_12 ?_
  refine x_top (M := M_X12_times) (y := (Int32.ofInt 0)) (by decide +kernel) ?_
  refine x_istore (M := M_X12_times) dX12_times_13 (Nat.le_of_ble_eq_true rfl) rfl ?_
  refine x_iconst (M := M_X12_times) dX12_times_15 ?_
  refine x_istore (M := M_X12_times) dX12_times_16 (Nat.le_of_ble_eq_true rfl) rfl ?_
  refine x_iload (M := M_X12_times) dX12_times_18 rfl ?_
  refine x_iload (M := M_X12_times) dX12_times_20 rfl ?_
  refine x_icmp_ge (M := M_X12_times) (tgt := 45) dX12_times_22 (by decide) (fun _ => ?_) (fun q => absurd q (by decide +kernel))
  refine x_iconst (M := M_X12_times) dX12_times_45 ?_
  refine x_istore (M := M_X12_times) dX12_times_46 (Nat.le_of_ble_eq_true rfl) rfl ?_
  refine x_iload (M := M_X12_times) dX12_times_48 rfl ?_
  refine x_aload_n (M := M_X12_times) dX12_times_50 rfl ?_
  refine x_getf (M := M_X12_times) (ci := 15) (C := RX12) (T := TX12) (N := 135) (ty := tyX12) cl15 dX12_times_51 o10490 37 (by decide) t_2428 (v := .ref 295) rfl ?_
  refine x_iload_n (M := M_X12_times) dX12_times_54 rfl ?_
  refine x_iald (M := M_X12_times) dX12_times_55 o10491 (vp_inD (by decide +kernel)) ?_
  refine x_top (M := M_X12_times) (y := (Int32.ofInt 0)) (by decide +kernel) ?_
  refine x_icmp_ge (M := M_X12_times) (tgt := 188) dX12_times_56 (by decide) (fun _ => ?_) (fun q => absurd q (by decide +kernel))
  refine x_aload_n (M := M_X12_times) dX12_times_188 rfl ?_
  refine x_getf (M := M_X12_times) (ci := 15) (C := RX12) (T := TX12) (N := 135) (ty := tyX12) cl15 dX12_times_189 o10490 37 (by decide) t_2428 (v := .ref 295) rfl ?_
  refine x_iload_n (M := M_X12_times) dX12_times_192 rfl ?_
  refine x_iload (M := M_X12_times) dX12_times_193 rfl ?_
  refine y_iast (M := M_X12_times) (k := 10) dX12_times_195 o10491 (vp_inD (by decide +kernel)) (by decide +kernel) (fun h10492 w10493 f10494 => ?_)
  have w10495 : ob h10492 295 = some (.inl (0, 20, .inl (fun _ => 0))) := by rw [w10493, up_z (k := 10)]
  refine x_aload_n (M := M_X12_times) dX12_times_196 rfl ?_
  have o10496 := (f10494 277 _ (by decide) o10490)
  refine x_getf (M := M_X12_times) (ci := 15) (C := RX12) (T := TX12) (N := 135) (ty := tyX12) cl15 dX12_times_197 o10496 38 (by decide) t_2429 (v := .ref 296) rfl ?_
  refine x_iload_n (M := M_X12_times) dX12_times_200 rfl ?_
  refine x_aload_n (M := M_X12_times) dX12_times_201 rfl ?_
  refine x_getf (M := M_X12_times) (ci := 15) (C := RX12) (T := TX12) (N := 135) (ty := tyX12) cl15 dX12_times_202 o10496 38 (by decide) t_2429 (v := .ref 296) rfl ?_
  refine x_iload_n (M := M_X12_times) dX12_times_205 rfl ?_
  have o10498 := (f10494 296 _ (by decide) o10497)
  refine x_iald (M := M_X12_times) dX12_times_206 o10498 (vp_inD (by decide +kernel)) ?_
  refine x_top (M := M_X12_times) (y := (Int32.ofInt 0)) (by decide +kernel) ?_
  refine x_aload_n (M := M_X12_times) dX12_times_207 rfl ?_
  refine x_getf (M := M_X12_times) (ci := 15) (C := RX12) (T := TX12) (N := 135) (ty := tyX12) cl15 dX12_times_208 o10496 38 (by decide) t_2429 (v := .ref 296) rfl ?_
  refine x_iload_n (M := M_X12_times) dX12_times_211 rfl ?_
  refine x_iald (M := M_X12_times) dX12_times_212 o10498 (vp_inD (by decide +kernel)) ?_
  refine x_top (M := M_X12_times) (y := (Int32.ofInt 0)) (by decide +kernel) ?_
  refine x_imul (M := M_X12_times) dX12_times_213 ?_
  refine x_norm (M := M_X12_times) (st' := [.int (Int32.ofInt 0), .int (Int32.ofInt 10), .ref 296]) rfl (vi_cons (by decide +kernel : ((Int32.ofInt 0) * (Int32.ofInt 0)) = (Int32.ofInt 0)) rfl) rfl rfl rfl ?_
  refine y_iast (M := M_X12_times) (k := 10) dX12_times_214 o10498 (vp_inD (by decide +kernel)) (by decide +kernel) (fun h10499 w10500 f10501 => ?_)
  have w10502 : ob h10499 296 = some (.inl (0, 20, .inl (fun _ => 0))) := by rw [w10500, up_z (k := 10)]
  refine x_aload_n (M := M_X12_times) dX12_times_215 rfl ?_
  refine x_iload_n (M := M_X12_times) dX12_times_216 rfl ?_
  have o10503 := (f10501 277 _ (by decide) o10496)
  have o10504 := (f10501 295 _ (by decide) w10495)
  refine y_callVR (M := M_X12_times) (M' := M_X12_trim) rfl rfl dX12_times_217 m_X12_trim t_3170 t_3172 s_213 (q10065 hl o10503 o10504 w10502) rfl rfl o10503 rfl (Nat.le_of_ble_eq_true rfl) (Nat.le_of_ble_eq_true rfl) (Nat.le_of_ble_eq_true rfl) (Nat.le_of_ble_eq_true rfl) (fun h10505 f10506 w10507 => ?_)
  obtain ⟨o10508, -⟩ := w10507
  have o10509 := (f10506 295 _ (by decide) o10504)
  exact x_vret (M := M_X12_times) dX12_times_220 rfl ⟨rfl, (fr_tr f10506 (by decide) (fr_tr f10501 (by decide) (fr_tr f10494 (by decide) fr_rf))), ⟨o10509, o10508, trivial⟩⟩ (Nat.le_of_ble_eq_true rfl) (Nat.le_of_ble_eq_true rfl)
set_option maxRecDepth 10000 in
theorem q10532 {l : Launch} {E : EE} (hl : l.stackTraces = false) {h : HP} {dg : Int32} (o10519 : ob h 277 = some (.inr (15, ((RB dg).set 0 (.int (Int32.ofInt 0)))))) (o10520 : ob h 295 = some (.inl (0, 20, .inl (fun _ => 0)))) (o10521 : ob h 294 = some (.inl (1, 6000, .inr (.inl (fun _ => 0))))) : en_C l E M_X12_addSizes 1 0 0 [.ref 277, .int (Int32.ofInt 11), .int (Int32.ofInt 9), .int (Int32.ofInt 10)] h (pF none [294, 295] h (fun h' => ob h' 294 = some (.inl (1, 6000, .inr (.inl (fun _ => 0)))) ∧ ob h' 295 = some (.inl (0, 20, .inl (upd (fun _ => 0) 11 (Int32.ofInt 1)))) ∧ True)) := by
  refine en_mk m_X12_addSizes rfl hl (Nat.le_of_ble_eq_true rfl) ?_
  refine x_aload_n (M := M_X12_addSizes) dX12_addSizes_0 rfl ?_
  refine x_getf (M := M_X12_addSizes) (ci := 15) (C := RX12) (T := TX12) (N := 135) (ty := tyX12) cl15 dX12_addSizes_1 o10519 37 (by decide) t_2428 (v := .ref 295) rfl ?_
  refine x_iload_n (M := M_X12_addSizes) dX12_addSizes_4 rfl ?_
  refine x_iald (M := M_X12_addSizes) dX12_addSizes_5 o10520 (vp_inD (by decide +kernel)) ?_
  refine x_top (M := M_X12_addSizes) (y := (Int32.ofInt 0)) (by decide +kernel) ?_
  refine x_aload_n (M := M_X12_addSizes) dX12_addSizes_6 rfl ?_
  refine x_getf (M := M_X12_addSizes) (ci := 15) (C := RX12) (T := TX12) (N := 135) (ty := tyX12) cl15 dX12_addSizes_7 o10519 37 (by decide) t_2428 (v := .ref 295) rfl ?_
  refine x_iload_n (M := M_X12_addSizes) dX12_addSizes_10 rfl ?_
  refine x_iald (M := M_X12_addSizes) dX12_addSizes_11 o10520 (vp_inD (by decide +kernel)) ?_
  refine x_top (M := M_X12_addSizes) (y := (Int32.ofInt 0)) (by decide +kernel) ?_
  refine x_icmp_le (M := M_X12_addSizes) (tgt := 24) dX12_addSizes_12 (by decide) (fun _ => ?_) (fun q => absurd q (by decide +kernel))
  refine x_aload_n (M := M_X12_addSizes) dX12_addSizes_24 rfl ?_
  refine x_getf (M := M_X12_addSizes) (ci := 15) (C := RX12) (T := TX12) (N := 135) (ty := tyX12) cl15 dX12_addSizes_25 o10519 37 (by decide) t_2428 (v := .ref 295) rfl ?_
  refine x_iload_n (M := M_X12_addSizes) dX12_addSizes_28 rfl ?_
  refine x_iald (M := M_X12_addSizes) dX12_addSizes_29 o10520 (vp_inD (by decide +kernel)) ?_
  refine x_top (M := M_X12_addSizes) (y := (Int32.ofInt 0)) (by decide +kernel) ?_
  refine x_iconst (M := M_X12_addSizes) dX12_addSizes_30 ?_
  refine x_iadd (M := M_X12_addSizes) dX12_addSizes_31 ?_
  refine x_top (M := M_X12_addSizes) (y := (Int32.ofInt 1)) (by decide +kernel) ?_
  refine x_istore (M := M_X12_addSizes) dX12_addSizes_32 (Nat.le_of_ble_eq_true rfl) rfl ?_
  refine x_lconst (M := M_X12_addSizes) dX12_addSizes_34 ?_
  refine x_topl (M := M_X12_addSizes) (y := (Int64.ofInt 0)) (by decide +kernel) ?_
  refine x_lstore (M := M_X12_addSizes) dX12_addSizes_35 (Nat.le_of_ble_eq_true rfl) rfl ?_
  refine x_iconst (M := M_X12_addSizes) dX12_addSizes_37 ?_
  refine x_istore (M := M_X12_addSizes) dX12_addSizes_38 (Nat.le_of_ble_eq_true rfl) rfl ?_
  refine x_iload (M := M_X12_addSizes) dX12_addSizes_40 rfl ?_
  refine x_iload (M := M_X12_addSizes) dX12_addSizes_42 rfl ?_
  refine x_icmp_ge (M := M_X12_addSizes) (tgt := 99) dX12_addSizes_44 (by decide) (fun q => absurd q (by decide +kernel)) (fun _ => ?_)
  refine x_lload (M := M_X12_addSizes) dX12_addSizes_47 rfl ?_
  refine x_aload_n (M := M_X12_addSizes) dX12_addSizes_49 rfl ?_
  refine x_iload_n (M := M_X12_addSizes) dX12_addSizes_50 rfl ?_
  refine x_iload (M := M_X12_addSizes) dX12_addSizes_51 rfl ?_
  refine x_callVR (M := M_X12_addSizes) (M' := M_X12_limb) rfl rfl dX12_addSizes_53 m_X12_limb t_3182 t_3184 s_216 (q10086 hl o10519 o10520) rfl rfl o10519 rfl (Nat.le_of_ble_eq_true rfl) (Nat.le_of_ble_eq_true rfl) (Nat.le_of_ble_eq_true rfl) (Nat.le_of_ble_eq_true rfl) ?_
  refine x_aload_n (M := M_X12_addSizes) dX12_addSizes_56 rfl ?_
  refine x_iload_n (M := M_X12_addSizes) dX12_addSizes_57 rfl ?_
  refine x_iload (M := M_X12_addSizes) dX12_addSizes_58 rfl ?_
  refine x_callVR (M := M_X12_addSizes) (M' := M_X12_limb) rfl rfl dX12_addSizes_60 m_X12_limb t_3182 t_3184 s_216 (q10089 hl o10519 o10520) rfl rfl o10519 rfl (Nat.le_of_ble_eq_true rfl) (Nat.le_of_ble_eq_true rfl) (Nat.le_of_ble_eq_true rfl) (Nat.le_of_ble_eq_true rfl) ?_
  refine x_ladd (M := M_X12_addSizes) dX12_addSizes_63 ?_
  refine x_ladd (M := M_X12_addSizes) dX12_addSizes_64 ?_
  refine x_topl (M := M_X12_addSizes) (y := (Int64.ofInt 0)) (by decide +kernel) ?_
  refine x_lstore (M := M_X12_addSizes) dX12_addSizes_65 (Nat.le_of_ble_eq_true rfl) rfl ?_
  refine x_aload_n (M := M_X12_addSizes) dX12_addSizes_67 rfl ?_
  refine x_getf (M := M_X12_addSizes) (ci := 15) (C := RX12) (T := TX12) (N := 135) (ty := tyX12) cl15 dX12_addSizes_68 o10519 36 (by decide) t_2427 (v := .ref 294) rfl ?_
  refine x_sipush (M := M_X12_addSizes) dX12_addSizes_71 ?_
  refine x_iload_n (M := M_X12_addSizes) dX12_addSizes_74 rfl ?_
  refine x_imul (M := M_X12_addSizes) dX12_addSizes_75 ?_
  refine x_iload (M := M_X12_addSizes) dX12_addSizes_76 rfl ?_
  refine x_iadd (M := M_X12_addSizes) dX12_addSizes_78 ?_
  refine x_lload (M := M_X12_addSizes) dX12_addSizes_79 rfl ?_
  refine x_ldc2 (M := M_X12_addSizes) dX12_addSizes_81 t_3169 ?_
  refine x_land (M := M_X12_addSizes) dX12_addSizes_84 ?_
  refine x_norm (M := M_X12_addSizes) (st' := [.long (Int64.ofInt 0), .int (Int32.ofInt 3300), .ref 294]) rfl (vj_cons (by decide +kernel : ((Int64.ofInt 0) &&& (4294967295 : Int64)) = (Int64.ofInt 0)) (vi_cons (by decide +kernel : ((((Int16.ofInt 300).toInt32) * (Int32.ofInt 11)) + (Int32.ofInt 0)) = (Int32.ofInt 3300)) rfl)) rfl rfl rfl ?_
  refine y_last (M := M_X12_addSizes) (k := 3300) dX12_addSizes_85 o10521 (vp_inD (by decide +kernel)) (by decide +kernel) (fun h10522 w10523 f10524 => ?_)
  have w10525 : ob h10522 294 = some (.inl (1, 6000, .inr (.inl (fun _ => 0)))) := by rw [w10523, uq_z (k := 3300)]
  refine x_lload (M := M_X12_addSizes) dX12_addSizes_86 rfl ?_
  refine x_bipush (M := M_X12_addSizes) dX12_addSizes_88 ?_
  refine x_lushr (M := M_X12_addSizes) dX12_addSizes_90 ?_
  refine x_topl (M := M_X12_addSizes) (y := (Int64.ofInt 0)) (by decide +kernel) ?_
  refine x_lstore (M := M_X12_addSizes) dX12_addSizes_91 (Nat.le_of_ble_eq_true rfl) rfl ?_
  refine x_lvs (M := M_X12_addSizes) (lv' := [some (.ref 277), some (.int (Int32.ofInt 11)), some (.int (Int32.ofInt 9)), some (.int (Int32.ofInt 10)), some (.int (Int32.ofInt 1)), some (.long (Int64.ofInt 0)), none, some (.int (Int32.ofInt 0))]) rfl ?_
  refine x_iinc (M := M_X12_addSizes) dX12_addSizes_93 rfl (Nat.le_of_ble_eq_true rfl) rfl ?_
  refine x_lvs (M := M_X12_addSizes) (lv' := [some (.ref 277), some (.int (Int32.ofInt 11)), some (.int (Int32.ofInt 9)), some (.int (Int32.ofInt 10)), some (.int (Int32.ofInt 1)), some (.long (Int64.ofInt 0)), none, some (.int (Int32.ofInt 1))]) (by rw [(by decide +kernel : (Int32.ofInt 0) + Int32.ofInt 1 = (Int32.ofInt 1))] <;> rfl) ?_
  refine x_goto (M := M_X12_addSizes) (tgt := 40) dX12_addSizes_96 (by decide) ?_
  refine x_iload (M := M_X12_addSizes) dX12_addSizes_40 rfl ?_
  refine x_iload (M := M_X12_addSizes) dX12_addSizes_42 rfl ?_
  refine x_icmp_ge (M := M_X12_addSizes) (tgt := 99) dX12_addSizes_44 (by decide) (fun _ => ?_) (fun q => absurd q (by decide +kernel))
  refine x_aload_n (M := M_X12_addSizes) dX12_addSizes_99 rfl ?_
  have o10526 := (f10524 277 _ (by decide) o10519)
  refine x_getf (M := M_X12_addSizes) (ci := 15) (C := RX12) (T := TX12) (N := 135) (ty := tyX12) cl15 dX12_addSizes_100 o10526 37 (by decide) t_2428 (v := .ref 295) rfl ?_
  refine x_iload_n (M := M_X12_addSizes) dX12_addSizes_103 rfl ?_
  refine x_iload (M := M_X12_addSizes) dX12_addSizes_104 rfl ?_
  have o10527 := (f10524 295 _ (by decide) o10520)
  refine y_iast (M := M_X12_addSizes) (k := 11) dX12_addSizes_106 o10527 (vp_inD (by decide +kernel)) (by decide +kernel) (fun h10528 w10529 f10530 => ?_)
  have o10531 := (f10530 294 _ (by decide) w10525)
  exact x_vret (M := M_X12_addSizes) dX12_addSizes_107 rfl ⟨rfl, (fr_tr f10530 (by decide) (fr_tr f10524 (by decide) fr_rf)), ⟨o10531, w10529, trivial⟩⟩ (Nat.le_of_ble_eq_true rfl) (Nat.le_of_ble_eq_true rfl)
set_option maxRecDepth 10000 in
theorem q10561 {l : Launch} {E : EE} (hl : l.stackTraces = false) {h : HP} {dg : Int32} (o10546 : ob h 277 = some (.inr (15, ((RB dg).set 0 (.int (Int32.ofInt 0)))))) (o10547 : ob h 295 = some (.inl (0, 20, .inl (upd (fun _ => 0) 11 (Int32.ofInt 1))))) (o10548 : ob h 294 = some (.inl (1, 6000, .inr (.inl (fun _ => 0))))) (o10554 : ob h 296 = some (.inl (0, 20, .inl (fun _ => 0)))) : en_C l E M_X12_trim 0 0 0 [.ref 277, .int (Int32.ofInt 11)] h (pF none [295, 296] h (fun h' => ob h' 295 = some (.inl (0, 20, .inl (fun _ => 0))) ∧ ob h' 296 = some (.inl (0, 20, .inl (fun _ => 0))) ∧ True)) := by
  refine en_mk m_X12_trim rfl hl (Nat.le_of_ble_eq_true rfl) ?_
  refine x_aload_n (M := M_X12_trim) dX12_trim_0 rfl ?_
  refine x_getf (M := M_X12_trim) (ci := 15) (C := RX12) (T := TX12) (N := 135) (ty := tyX12) cl15 dX12_trim_1 o10546 37 (by decide) t_2428 (v := .ref 295) rfl ?_
  refine x_iload_n (M := M_X12_trim) dX12_trim_4 rfl ?_
  refine x_iald (M := M_X12_trim) dX12_trim_5 o10547 (vp_inD (by decide +kernel)) ?_
  refine x_top (M := M_X12_trim) (y := (Int32.ofInt 1)) (by decide +kernel) ?_
  refine x_if_le (M := M_X12_trim) (tgt := 46) dX12_trim_6 (by decide) (fun q => absurd q (by decide +kernel)) (fun _ => ?_)
  refine x_aload_n (M := M_X12_trim) dX12_trim_9 rfl ?_
  refine x_getf (M := M_X12_trim) (ci := 15) (C := RX12) (T := TX12) (N := 135) (ty := tyX12) cl15 dX12_trim_10 o10546 36 (by decide) t_2427 (v := .ref 294) rfl ?_
  refine x_sipush (M := M_X12_trim) dX12_trim_13 ?_
  refine x_iload_n (M := M_X12_trim) dX12_trim_16 rfl ?_
  refine x_imul (M := M_X12_trim) dX12_trim_17 ?_
  refine x_aload_n (M := M_X12_trim) dX12_trim_18 rfl ?_
  refine x_getf (M := M_X12_trim) (ci := 15) (C := RX12) (T := TX12) (N := 135) (ty := tyX12) cl15 dX12_trim_19 o10546 37 (by decide) t_2428 (v := .ref 295) rfl ?_
  refine x_iload_n (M := M_X12_trim) dX12_trim_22 rfl ?_
  refine x_iald (M := M_X12_trim) dX12_trim_23 o10547 (vp_inD (by decide +kernel)) ?_
  refine x_top (M := M_X12_trim) (y := (Int32.ofInt 1)) (by decide +kernel) ?_
  refine x_iadd (M := M_X12_trim) dX12_trim_24 ?_
  refine x_iconst (M := M_X12_trim) dX12_trim_25 ?_
  refine x_isub (M := M_X12_trim) dX12_trim_26 ?_
  refine x_lald (M := M_X12_trim) dX12_trim_27 o10548 (vp_inD (by decide +kernel)) ?_
  refine x_topl (M := M_X12_trim) (y := (Int64.ofInt 0)) (by decide +kernel) ?_
  refine x_lconst (M := M_X12_trim) dX12_trim_28 ?_
  refine x_lcmp (M := M_X12_trim) dX12_trim_29 ?_
  refine x_if_ne (M := M_X12_trim) (tgt := 46) dX12_trim_30 (by decide) (fun q => absurd q (by decide +kernel)) (fun _ => ?_)
  refine x_aload_n (M := M_X12_trim) dX12_trim_33 rfl ?_
  refine x_getf (M := M_X12_trim) (ci := 15) (C := RX12) (T := TX12) (N := 135) (ty := tyX12) cl15 dX12_trim_34 o10546 37 (by decide) t_2428 (v := .ref 295) rfl ?_
  refine x_iload_n (M := M_X12_trim) dX12_trim_37 rfl ?_
  refine x_dup2 (M := M_X12_trim) dX12_trim_38 rfl rfl ?_
  refine x_iald (M := M_X12_trim) dX12_trim_39 o10547 (vp_inD (by decide +kernel)) ?_
  refine x_top (M := M_X12_trim) (y := (Int32.ofInt 1)) (by decide +kernel) ?_
  refine x_iconst (M := M_X12_trim) dX12_trim_40 ?_
  refine x_isub (M := M_X12_trim) dX12_trim_41 ?_
  refine x_norm (M := M_X12_trim) (st' := [.int (Int32.ofInt 0), .int (Int32.ofInt 11), .ref 295]) rfl (vi_cons (by decide +kernel : ((Int32.ofInt 1) - (Int32.ofInt 1)) = (Int32.ofInt 0)) rfl) rfl rfl rfl ?_
  refine y_iast (M := M_X12_trim) (k := 11) dX12_trim_42 o10547 (vp_inD (by decide +kernel)) (by decide +kernel) (fun h10549 w10550 f10551 => ?_)
  have w10552 : ob h10549 295 = some (.inl (0, 20, .inl (fun _ => 0))) := by rw [w10550, up_up (k := 11), up_z (k := 11)]
  refine x_goto (M := M_X12_trim) (tgt := 0) dX12_trim_43 (by decide) ?_
  refine x_aload_n (M := M_X12_trim) dX12_trim_0 rfl ?_
  have o10553 := (f10551 277 _ (by decide) o10546)
  refine x_getf (M := M_X12_trim) (ci := 15) (C := RX12) (T := TX12) (N := 135) (ty := tyX12) cl15 dX12_trim_1 o10553 37 (by decide) t_2428 (v := .ref 295) rfl ?_
  refine x_iload_n (M := M_X12_trim) dX12_trim_4 rfl ?_
  refine x_iald (M := M_X12_trim) dX12_trim_5 w10552 (vp_inD (by decide +kernel)) ?_
  refine x_top (M := M_X12_trim) (y := (Int32.ofInt 0)) (by decide +kernel) ?_
  refine x_if_le (M := M_X12_trim) (tgt := 46) dX12_trim_6 (by decide) (fun _ => ?_) (fun q => absurd q (by decide +kernel))
  refine x_aload_n (M := M_X12_trim) dX12_trim_46 rfl ?_
  refine x_getf (M := M_X12_trim) (ci := 15) (C := RX12) (T := TX12) (N := 135) (ty := tyX12) cl15 dX12_trim_47 o10553 37 (by decide) t_2428 (v := .ref 295) rfl ?_
  refine x_iload_n (M := M_X12_trim) dX12_trim_50 rfl ?_
  refine x_iald (M := M_X12_trim) dX12_trim_51 w10552 (vp_inD (by decide +kernel)) ?_
  refine x_top (M := M_X12_trim) (y := (Int32.ofInt 0)) (by decide +kernel) ?_
  refine x_if_ne (M := M_X12_trim) (tgt := 62) dX12_trim_52 (by decide) (fun q => absurd q (by decide +kernel)) (fun _ => ?_)
  refine x_aload_n (M := M_X12_trim) dX12_trim_55 rfl ?_
  refine x_getf (M := M_X12_trim) (ci := 15) (C := RX12) (T := TX12) (N := 135) (ty := tyX12) cl15 dX12_trim_56 o10553 38 (by decide) t_2429 (v := .ref 296) rfl ?_
  refine x_iload_n (M := M_X12_trim) dX12_trim_59 rfl ?_
  refine x_iconst (M := M_X12_trim) dX12_trim_60 ?_
  have o10555 := (f10551 296 _ (by decide) o10554)
  refine y_iast (M := M_X12_trim) (k := 11) dX12_trim_61 o10555 (vp_inD (by decide +kernel)) (by decide +kernel) (fun h10556 w10557 f10558 => ?_)
  have w10559 : ob h10556 296 = some (.inl (0, 20, .inl (fun _ => 0))) := by rw [w10557, up_z (k := 11)]
  have o10560 := (f10558 295 _ (by decide) w10552)
  exact x_vret (M := M_X12_trim) dX12_trim_62 rfl ⟨rfl, (fr_tr f10558 (by decide) (fr_tr f10551 (by decide) fr_rf)), ⟨o10560, w10559, trivial⟩⟩ (Nat.le_of_ble_eq_true rfl) (Nat.le_of_ble_eq_true rfl)
set_option maxRecDepth 10000 in
theorem q10571 {l : Launch} {E : EE} (hl : l.stackTraces = false) {h : HP} {dg : Int32} (o10517 : ob h 277 = some (.inr (15, ((RB dg).set 0 (.int (Int32.ofInt 0)))))) (o10518 : ob h 296 = some (.inl (0, 20, .inl (fun _ => 0)))) (o10533 : ob h 295 = some (.inl (0, 20, .inl (fun _ => 0)))) (o10534 : ob h 294 = some (.inl (1, 6000, .inr (.inl (fun _ => 0))))) : en_C l E M_X12_add 2 0 0 [.ref 277, .int (Int32.ofInt 11), .int (Int32.ofInt 9), .int (Int32.ofInt 10), .int (Int32.ofInt 1)] h (pF none [294, 295, 296] h (fun h' => ob h' 294 = some (.inl (1, 6000, .inr (.inl (fun _ => 0)))) ∧ ob h' 295 = some (.inl (0, 20, .inl (fun _ => 0))) ∧ ob h' 296 = some (.inl (0, 20, .inl (fun _ => 0))) ∧ True)) := by
  refine en_mk m_X12_add rfl hl (Nat.le_of_ble_eq_true rfl) ?_
  refine x_aload_n (M := M_X12_add) dX12_add_0 rfl ?_
  refine x_getf (M := M_X12_add) (ci := 15) (C := RX12) (T := TX12) (N := 135) (ty := tyX12) cl15 dX12_add_1 o10517 38 (by decide) t_2429 (v := .ref 296) rfl ?_
  refine x_iload_n (M := M_X12_add) dX12_add_4 rfl ?_
  refine x_iald (M := M_X12_add) dX12_add_5 o10518 (vp_inD (by decide +kernel)) ?_
  refine x_top (M := M_X12_add) (y := (Int32.ofInt 0)) (by decide +kernel) ?_
  refine x_istore (M := M_X12_add) dX12_add_6 (Nat.le_of_ble_eq_true rfl) rfl ?_
  refine x_iload (M := M_X12_add) dX12_add_8 rfl ?_
  refine x_if_eq (M := M_X12_add) (tgt := 23) dX12_add_10 (by decide) (fun q => absurd q (by decide +kernel)) (fun _ => ?_)
  refine x_aload_n (M := M_X12_add) dX12_add_13 rfl ?_
  refine x_getf (M := M_X12_add) (ci := 15) (C := RX12) (T := TX12) (N := 135) (ty := tyX12) cl15 dX12_add_14 o10517 38 (by decide) t_2429 (v := .ref 296) rfl ?_
  refine x_iload_n (M := M_X12_add) dX12_add_17 rfl ?_
  refine x_iald (M := M_X12_add) dX12_add_18 o10518 (vp_inD (by decide +kernel)) ?_
  refine x_top (M := M_X12_add) (y := (Int32.ofInt 0)) (by decide +kernel) ?_
  refine x_ineg (M := M_X12_add) dX12_add_19 ?_
  refine x_goto (M := M_X12_add) (tgt := 29) dX12_add_20 (by decide) ?_
  refine x_top (M := M_X12_add) (y := (Int32.ofInt 0)) (by decide +kernel) ?_
  refine x_istore (M := M_X12_add) dX12_add_29 (Nat.le_of_ble_eq_true rfl) rfl ?_
  refine x_iload (M := M_X12_add) dX12_add_31 rfl ?_
  refine x_if_eq (M := M_X12_add) (tgt := 48) dX12_add_33 (by decide) (fun _ => ?_) (fun q => absurd q (by decide +kernel))
  refine x_aload_n (M := M_X12_add) dX12_add_48 rfl ?_
  refine x_iload_n (M := M_X12_add) dX12_add_49 rfl ?_
  refine x_iload_n (M := M_X12_add) dX12_add_50 rfl ?_
  refine x_iload_n (M := M_X12_add) dX12_add_51 rfl ?_
  refine y_callVR (M := M_X12_add) (M' := M_X12_addSizes) rfl rfl dX12_add_52 m_X12_addSizes t_3178 t_3180 s_215 (q10532 hl o10517 o10533 o10534) rfl rfl o10517 rfl (Nat.le_of_ble_eq_true rfl) (Nat.le_of_ble_eq_true rfl) (Nat.le_of_ble_eq_true rfl) (Nat.le_of_ble_eq_true rfl) (fun h10535 f10536 w10537 => ?_)
  obtain ⟨o10538, o10539, -⟩ := w10537
  refine x_aload_n (M := M_X12_add) dX12_add_55 rfl ?_
  have o10540 := (f10536 277 _ (by decide) o10517)
  refine x_getf (M := M_X12_add) (ci := 15) (C := RX12) (T := TX12) (N := 135) (ty := tyX12) cl15 dX12_add_56 o10540 38 (by decide) t_2429 (v := .ref 296) rfl ?_
  refine x_iload_n (M := M_X12_add) dX12_add_59 rfl ?_
  refine x_iload (M := M_X12_add) dX12_add_60 rfl ?_
  refine x_if_ne (M := M_X12_add) (tgt := 70) dX12_add_62 (by decide) (fun q => absurd q (by decide +kernel)) (fun _ => ?_)
  refine x_iload (M := M_X12_add) dX12_add_65 rfl ?_
  refine x_goto (M := M_X12_add) (tgt := 72) dX12_add_67 (by decide) ?_
  have o10541 := (f10536 296 _ (by decide) o10518)
  refine y_iast (M := M_X12_add) (k := 11) dX12_add_72 o10541 (vp_inD (by decide +kernel)) (by decide +kernel) (fun h10542 w10543 f10544 => ?_)
  have w10545 : ob h10542 296 = some (.inl (0, 20, .inl (fun _ => 0))) := by rw [w10543, up_z (k := 11)]
  refine x_goto (M := M_X12_add) (tgt := 118) dX12_add_73 (by decide) ?_
  refine x_aload_n (M := M_X12_add) dX12_add_118 rfl ?_
  refine x_iload_n (M := M_X12_add) dX12_add_119 rfl ?_
  have o10562 := (f10544 277 _ (by decide) o10540)
  have o10563 := (f10544 295 _ (by decide) o10539)
  have o10564 := (f10544 294 _ (by decide) o10538)
  refine y_callVR (M := M_X12_add) (M' := M_X12_trim) rfl rfl dX12_add_120 m_X12_trim t_3170 t_3172 s_213 (q10561 hl o10562 o10563 o10564 w10545) rfl rfl o10562 rfl (Nat.le_of_ble_eq_true rfl) (Nat.le_of_ble_eq_true rfl) (Nat.le_of_ble_eq_true rfl) (Nat.le_of_ble_eq_true rfl) (fun h10565 f10566 w10567 => ?_)
  obtain ⟨o10568, o10569, -⟩ := w10567
  have o10570 := (f10566 294 _ (by decide) o10564)
  exact x_vret (M := M_X12_add) dX12_add_123 rfl ⟨rfl, (fr_tr f10566 (by decide) (fr_tr f10544 (by decide) (fr_tr f10536 (by decide) fr_rf))), ⟨o10570, o10568, o10569, trivial⟩⟩ (Nat.le_of_ble_eq_true rfl) (Nat.le_of_ble_eq_true rfl)
set_option maxRecDepth 10000 in
theorem q10600 {l : Launch} {E : EE} (hl : l.stackTraces = false) {h : HP} {dg : Int32} (o10593 : ob h 277 = some (.inr (15, ((RB dg).set 0 (.int (Int32.ofInt 0)))))) (o10594 : ob h 295 = some (.inl (0, 20, .inl (fun _ => 0)))) (o10595 : ob h 296 = some (.inl (0, 20, .inl (fun _ => 0)))) : en_C l E M_X12_trim 0 0 0 [.ref 277, .int (Int32.ofInt 12)] h (pF none [296] h (fun h' => ob h' 296 = some (.inl (0, 20, .inl (fun _ => 0))) ∧ True)) := by
  refine en_mk m_X12_trim rfl hl (Nat.le_of_ble_eq_true rfl) ?_
  refine x_aload_n (M := M_X12_trim) dX12_trim_0 rfl ?_
  refine x_getf (M := M_X12_trim) (ci := 15) (C := RX12) (T := TX12) (N := 135) (ty := tyX12) cl15 dX12_trim_1 o10593 37 (by decide) t_2428 (v := .ref 295) rfl ?_
  refine x_iload_n (M := M_X12_trim) dX12_trim_4 rfl ?_
  refine x_iald (M := M_X12_trim) dX12_trim_5 o10594 (vp_inD (by decide +kernel)) ?_
  refine x_top (M := M_X12_trim) (y := (Int32.ofInt 0)) (by decide +kernel) ?_
  refine x_if_le (M := M_X12_trim) (tgt := 46) dX12_trim_6 (by decide) (fun _ => ?_) (fun q => absurd q (by decide +kernel))
  refine x_aload_n (M := M_X12_trim) dX12_trim_46 rfl ?_
  refine x_getf (M := M_X12_trim) (ci := 15) (C := RX12) (T := TX12) (N := 135) (ty := tyX12) cl15 dX12_trim_47 o10593 37 (by decide) t_2428 (v := .ref 295) rfl ?_
  refine x_iload_n (M := M_X12_trim) dX12_trim_50 rfl ?_
  refine x_iald (M := M_X12_trim) dX12_trim_51 o10594 (vp_inD (by decide +kernel)) ?_
  refine x_top (M := M_X12_trim) (y := (Int32.ofInt 0)) (by decide +kernel) ?_
  refine x_if_ne (M := M_X12_trim) (tgt := 62) dX12_trim_52 (by decide) (fun q => absurd q (by decide +kernel)) (fun _ => ?_)
  refine x_aload_n (M := M_X12_trim) dX12_trim_55 rfl ?_
  refine x_getf (M := M_X12_trim) (ci := 15) (C := RX12) (T := TX12) (N := 135) (ty := tyX12) cl15 dX12_trim_56 o10593 38 (by decide) t_2429 (v := .ref 296) rfl ?_
  refine x_iload_n (M := M_X12_trim) dX12_trim_59 rfl ?_
  refine x_iconst (M := M_X12_trim) dX12_trim_60 ?_
  refine y_iast (M := M_X12_trim) (k := 12) dX12_trim_61 o10595 (vp_inD (by decide +kernel)) (by decide +kernel) (fun h10596 w10597 f10598 => ?_)
  have w10599 : ob h10596 296 = some (.inl (0, 20, .inl (fun _ => 0))) := by rw [w10597, up_z (k := 12)]
  exact x_vret (M := M_X12_trim) dX12_trim_62 rfl ⟨rfl, (fr_tr f10598 (by decide) fr_rf), ⟨w10599, trivial⟩⟩ (Nat.le_of_ble_eq_true rfl) (Nat.le_of_ble_eq_true rfl)
set_option maxRecDepth 10000 in
theorem q10608 {l : Launch} {E : EE} (hl : l.stackTraces = false) {h : HP} {dg : Int32} (o10580 : ob h 277 = some (.inr (15, ((RB dg).set 0 (.int (Int32.ofInt 0)))))) (o10581 : ob h 295 = some (.inl (0, 20, .inl (fun _ => 0)))) (o10587 : ob h 296 = some (.inl (0, 20, .inl (fun _ => 0)))) : en_C l E M_X12_times 1 0 0 [.ref 277, .int (Int32.ofInt 12), .int (Int32.ofInt 0), .int (Int32.ofInt 11)] h (pF none [295, 296] h (fun h' => ob h' 295 = some (.inl (0, 20, .inl (fun _ => 0))) ∧ ob h' 296 = some (.inl (0, 20, .inl (fun _ => 0))) ∧ True)) := by
  refine en_mk m_X12_times rfl hl (Nat.le_of_ble_eq_true rfl) ?_
  refine x_aload_n (M := M_X12_times) dX12_times_0 rfl ?_
  refine x_getf (M := M_X12_times) (ci := 15) (C := RX12) (T := TX12) (N := 135) (ty := tyX12) cl15 dX12_times_1 o10580 37 (by decide) t_2428 (v := .ref 295) rfl ?_
  refine x_iload_n (M := M_X12_times) dX12_times_4 rfl ?_
  refine x_iald (M := M_X12_times) dX12_times_5 o10581 (vp_inD (by decide +kernel)) ?_
  refine x_top (M := M_X12_times) (y := (Int32.ofInt 0)) (by decide +kernel) ?_
  refine x_aload_n (M := M_X12_times) dX12_times_6 rfl ?_
  refine x_getf (M := M_X12_times) (ci := 15) (C := RX12) (T := TX12) (N := 135) (ty := tyX12) cl15 dX12_times_7 o10580 37 (by decide) t_2428 (v := .ref 295) rfl ?_
  refine x_iload_n (M := M_X12_times) dX12_times_10 rfl ?_
  refine x_iald (M := M_X12_times) dX12_times_11 o10581 (vp_inD (by decide +kernel)) ?_
  refine x_top (M := M_X12_times) (y := (Int32.ofInt 0)) (by decide +kernel) ?_
  refine x_iadd (M := M_X12_times) dX12_times_12 ?_
  refine x_top (M := M_X12_times) (y := (Int32.ofInt 0)) (by decide +kernel) ?_
  refine x_istore (M := M_X12_times) dX12_times_13 (Nat.le_of_ble_eq_true rfl) rfl ?_
  refine x_iconst (M := M_X12_times) dX12_times_15 ?_
  refine x_istore (M := M_X12_times) dX12_times_16 (Nat.le_of_ble_eq_true rfl) rfl ?_
  refine x_iload (M := M_X12_times) dX12_times_18 rfl ?_
  refine x_iload (M := M_X12_times) dX12_times_20 rfl ?_
  refine x_icmp_ge (M := M_X12_times) (tgt := 45) dX12_times_22 (by decide) (fun _ => ?_) (fun q => absurd q (by decide +kernel))
  refine x_iconst (M := M_X12_times) dX12_times_45 ?_
  refine x_istore (M := M_X12_times) dX12_times_46 (Nat.le_of_ble_eq_true rfl) rfl ?_
  refine x_iload (M := M_X12_times) dX12_times_48 rfl ?_
  refine x_aload_n (M := M_X12_times) dX12_times_50 rfl ?_
  refine x_getf (M := M_X12_times) (ci := 15) (C := RX12) (T := TX12) (N := 135) (ty := tyX12) cl15 dX12_times_51 o10580 37 (by decide) t_2428 (v := .ref 295) rfl ?_
  refine x_iload_n (M := M_X12_times) dX12_times_54 rfl ?_
  refine x_iald (M := M_X12_times) dX12_times_55 o10581 (vp_inD (by decide +kernel)) ?_
  refine x_top (M := M_X12_times) (y := (Int32.ofInt 0)) (by decide +kernel) ?_
  refine x_icmp_ge (M := M_X12_times) (tgt := 188) dX12_times_56 (by decide) (fun _ => ?_) (fun q => absurd q (by decide +kernel))
  refine x_aload_n (M := M_X12_times) dX12_times_188 rfl ?_
  refine x_getf (M := M_X12_times) (ci := 15) (C := RX12) (T := TX12) (N := 135) (ty := tyX12) cl15 dX12_times_189 o10580 37 (by decide) t_2428 (v := .ref 295) rfl ?_
  refine x_iload_n (M := M_X12_times) dX12_times_192 rfl ?_
  refine x_iload (M := M_X12_times) dX12_times_193 rfl ?_
  refine y_iast (M := M_X12_times) (k := 12) dX12_times_195 o10581 (vp_inD (by decide +kernel)) (by decide +kernel) (fun h10582 w10583 f10584 => ?_)
  have w10585 : ob h10582 295 = some (.inl (0, 20, .inl (fun _ => 0))) := by rw [w10583, up_z (k := 12)]
  refine x_aload_n (M := M_X12_times) dX12_times_196 rfl ?_
  have o10586 := (f10584 277 _ (by decide) o10580)
  refine x_getf (M := M_X12_times) (ci := 15) (C := RX12) (T := TX12) (N := 135) (ty := tyX12) cl15 dX12_times_197 o10586 38 (by decide) t_2429 (v := .ref 296) rfl ?_
  refine x_iload_n (M := M_X12_times) dX12_times_200 rfl ?_
  refine x_aload_n (M := M_X12_times) dX12_times_201 rfl ?_
  refine x_getf (M := M_X12_times) (ci := 15) (C := RX12) (T := TX12) (N := 135) (ty := tyX12) cl15 dX12_times_202 o10586 38 (by decide) t_2429 (v := .ref 296) rfl ?_
  refine x_iload_n (M := M_X12_times) dX12_times_205 rfl ?_
  have o10588 := (f10584 296 _ (by decide) o10587)
  refine x_iald (M := M_X12_times) dX12_times_206 o10588 (vp_inD (by decide +kernel)) ?_
  refine x_top (M := M_X12_times) (y := (Int32.ofInt 0)) (by decide +kernel) ?_
  refine x_aload_n (M := M_X12_times) dX12_times_207 rfl ?_
  refine x_getf (M := M_X12_times) (ci := 15) (C := RX12) (T := TX12) (N := 135) (ty := tyX12) cl15 dX12_times_208 o10586 38 (by decide) t_2429 (v := .ref 296) rfl ?_
  refine x_iload_n (M := M_X12_times) dX12_times_211 rfl ?_
  refine x_iald (M := M_X12_times) dX12_times_212 o10588 (vp_inD (by decide +kernel)) ?_
  refine x_top (M := M_X12_times) (y := (Int32.ofInt 0)) (by decide +kernel) ?_
  refine x_imul (M := M_X12_times) dX12_times_213 ?_
  refine x_norm (M := M_X12_times) (st' := [.int (Int32.ofInt 0), .int (Int32.ofInt 12), .ref 296]) rfl (vi_cons (by decide +kernel : ((Int32.ofInt 0) * (Int32.ofInt 0)) = (Int32.ofInt 0)) rfl) rfl rfl rfl ?_
  refine y_iast (M := M_X12_times) (k := 12) dX12_times_214 o10588 (vp_inD (by decide +kernel)) (by decide +kernel) (fun h10589 w10590 f10591 => ?_)
  have w10592 : ob h10589 296 = some (.inl (0, 20, .inl (fun _ => 0))) := by rw [w10590, up_z (k := 12)]
  refine x_aload_n (M := M_X12_times) dX12_times_215 rfl ?_
  refine x_iload_n (M := M_X12_times) dX12_times_216 rfl ?_
  have o10601 := (f10591 277 _ (by decide) o10586)
  have o10602 := (f10591 295 _ (by decide) w10585)
  refine y_callVR (M := M_X12_times) (M' := M_X12_trim) rfl rfl dX12_times_217 m_X12_trim t_3170 t_3172 s_213 (q10600 hl o10601 o10602 w10592) rfl rfl o10601 rfl (Nat.le_of_ble_eq_true rfl) (Nat.le_of_ble_eq_true rfl) (Nat.le_of_ble_eq_true rfl) (Nat.le_of_ble_eq_true rfl) (fun h10603 f10604 w10605 => ?_)
  obtain ⟨o10606, -⟩ := w10605
  have o10607 := (f10604 295 _ (by decide) o10602)
  exact x_vret (M := M_X12_times) dX12_times_220 rfl ⟨rfl, (fr_tr f10604 (by decide) (fr_tr f10591 (by decide) (fr_tr f10584 (by decide) fr_rf))), ⟨o10607, o10606, trivial⟩⟩ (Nat.le_of_ble_eq_true rfl) (Nat.le_of_ble_eq_true rfl)
set_option maxRecDepth 10000 in
theorem q10621 {l : Launch} {E : EE} (hl : l.stackTraces = false) {h : HP} {dg : Int32} (o10619 : ob h 277 = some (.inr (15, ((RB dg).set 0 (.int (Int32.ofInt 0)))))) (o10620 : ob h 295 = some (.inl (0, 20, .inl (fun _ => 0)))) : en_C l E M_X12_limb 0 0 0 [.ref 277, .int (Int32.ofInt 15), .int (Int32.ofInt 0)] h (pR (some (.long (Int64.ofInt 0))) h) := by
  refine en_mk m_X12_limb rfl hl (Nat.le_of_ble_eq_true rfl) ?_
  refine x_iload_n (M := M_X12_limb) dX12_limb_0 rfl ?_
  refine x_aload_n (M := M_X12_limb) dX12_limb_1 rfl ?_
  refine x_getf (M := M_X12_limb) (ci := 15) (C := RX12) (T := TX12) (N := 135) (ty := tyX12) cl15 dX12_limb_2 o10619 37 (by decide) t_2428 (v := .ref 295) rfl ?_
  refine x_iload_n (M := M_X12_limb) dX12_limb_5 rfl ?_
  refine x_iald (M := M_X12_limb) dX12_limb_6 o10620 (vp_inD (by decide +kernel)) ?_
  refine x_top (M := M_X12_limb) (y := (Int32.ofInt 0)) (by decide +kernel) ?_
  refine x_icmp_ge (M := M_X12_limb) (tgt := 25) dX12_limb_7 (by decide) (fun _ => ?_) (fun q => absurd q (by decide +kernel))
  refine x_lconst (M := M_X12_limb) dX12_limb_25 ?_
  refine x_topl (M := M_X12_limb) (y := (Int64.ofInt 0)) (by decide +kernel) ?_
  exact x_lret (M := M_X12_limb) dX12_limb_26 rfl ⟨rfl, rfl⟩ (Nat.le_of_ble_eq_true rfl) (Nat.le_of_ble_eq_true rfl)
set_option maxRecDepth 10000 in
theorem q10624 {l : Launch} {E : EE} (hl : l.stackTraces = false) {h : HP} {dg : Int32} (o10622 : ob h 277 = some (.inr (15, ((RB dg).set 0 (.int (Int32.ofInt 0)))))) (o10623 : ob h 295 = some (.inl (0, 20, .inl (fun _ => 0)))) : en_C l E M_X12_limb 0 0 0 [.ref 277, .int (Int32.ofInt 12), .int (Int32.ofInt 0)] h (pR (some (.long (Int64.ofInt 0))) h) := by
  refine en_mk m_X12_limb rfl hl (Nat.le_of_ble_eq_true rfl) ?_
  refine x_iload_n (M := M_X12_limb) dX12_limb_0 rfl ?_
  refine x_aload_n (M := M_X12_limb) dX12_limb_1 rfl ?_
  refine x_getf (M := M_X12_limb) (ci := 15) (C := RX12) (T := TX12) (N := 135) (ty := tyX12) cl15 dX12_limb_2 o10622 37 (by decide) t_2428 (v := .ref 295) rfl ?_
  refine x_iload_n (M := M_X12_limb) dX12_limb_5 rfl ?_
  refine x_iald (M := M_X12_limb) dX12_limb_6 o10623 (vp_inD (by decide +kernel)) ?_
  refine x_top (M := M_X12_limb) (y := (Int32.ofInt 0)) (by decide +kernel) ?_
  refine x_icmp_ge (M := M_X12_limb) (tgt := 25) dX12_limb_7 (by decide) (fun _ => ?_) (fun q => absurd q (by decide +kernel))
  refine x_lconst (M := M_X12_limb) dX12_limb_25 ?_
  refine x_topl (M := M_X12_limb) (y := (Int64.ofInt 0)) (by decide +kernel) ?_
  exact x_lret (M := M_X12_limb) dX12_limb_26 rfl ⟨rfl, rfl⟩ (Nat.le_of_ble_eq_true rfl) (Nat.le_of_ble_eq_true rfl)
set_option maxRecDepth 10000 in
theorem q10636 {l : Launch} {E : EE} (hl : l.stackTraces = false) {h : HP} {dg : Int32} (o10617 : ob h 277 = some (.inr (15, ((RB dg).set 0 (.int (Int32.ofInt 0)))))) (o10618 : ob h 295 = some (.inl (0, 20, .inl (fun _ => 0)))) (o10625 : ob h 294 = some (.inl (1, 6000, .inr (.inl (fun _ => 0))))) : en_C l E M_X12_addSizes 1 0 0 [.ref 277, .int (Int32.ofInt 15), .int (Int32.ofInt 15), .int (Int32.ofInt 12)] h (pF none [294, 295] h (fun h' => ob h' 294 = some (.inl (1, 6000, .inr (.inl (fun _ => 0)))) ∧ ob h' 295 = some (.inl (0, 20, .inl (upd (fun _ => 0) 15 (Int32.ofInt 1)))) ∧ True)) := by
  refine en_mk m_X12_addSizes rfl hl (Nat.le_of_ble_eq_true rfl) ?_
  refine x_aload_n (M := M_X12_addSizes) dX12_addSizes_0 rfl ?_
  refine x_getf (M := M_X12_addSizes) (ci := 15) (C := RX12) (T := TX12) (N := 135) (ty := tyX12) cl15 dX12_addSizes_1 o10617 37 (by decide) t_2428 (v := .ref 295) rfl ?_
  refine x_iload_n (M := M_X12_addSizes) dX12_addSizes_4 rfl ?_
  refine x_iald (M := M_X12_addSizes) dX12_addSizes_5 o10618 (vp_inD (by decide +kernel)) ?_
  refine x_top (M := M_X12_addSizes) (y := (Int32.ofInt 0)) (by decide +kernel) ?_
  refine x_aload_n (M := M_X12_addSizes) dX12_addSizes_6 rfl ?_
  refine x_getf (M := M_X12_addSizes) (ci := 15) (C := RX12) (T := TX12) (N := 135) (ty := tyX12) cl15 dX12_addSizes_7 o10617 37 (by decide) t_2428 (v := .ref 295) rfl ?_
  refine x_iload_n (M := M_X12_addSizes) dX12_addSizes_10 rfl ?_
  refine x_iald (M := M_X12_addSizes) dX12_addSizes_11 o10618 (vp_inD (by decide +kernel)) ?_
  refine x_top (M := M_X12_addSizes) (y := (Int32.ofInt 0)) (by decide +kernel) ?_
  refine x_icmp_le (M := M_X12_addSizes) (tgt := 24) dX12_addSizes_12 (by decide) (fun _ => ?_) (fun q => absurd q (by decide +kernel))
  refine x_aload_n (M := M_X12_addSizes) dX12_addSizes_24 rfl ?_
  refine x_getf (M := M_X12_addSizes) (ci := 15) (C := RX12) (T := TX12) (N := 135) (ty := tyX12) cl15 dX12_addSizes_25 o10617 37 (by decide) t_2428 (v := .ref 295) rfl ?_
  refine x_iload_n (M := M_X12_addSizes) dX12_addSizes_28 rfl ?_
  refine x_iald (M := M_X12_addSizes) dX12_addSizes_29 o10618 (vp_inD (by decide +kernel)) ?_
  refine x_top (M := M_X12_addSizes) (y := (Int32.ofInt 0)) (by decide +kernel) ?_
  refine x_iconst (M := M_X12_addSizes) dX12_addSizes_30 ?_
  refine x_iadd (M := M_X12_addSizes) dX12_addSizes_31 ?_
  refine x_top (M := M_X12_addSizes) (y := (Int32.ofInt 1)) (by decide +kernel) ?_
  refine x_istore (M := M_X12_addSizes) dX12_addSizes_32 (Nat.le_of_ble_eq_true rfl) rfl ?_
  refine x_lconst (M := M_X12_addSizes) dX12_addSizes_34 ?_
  refine x_topl (M := M_X12_addSizes) (y := (Int64.ofInt 0)) (by decide +kernel) ?_
  refine x_lstore (M := M_X12_addSizes) dX12_addSizes_35 (Nat.le_of_ble_eq_true rfl) rfl ?_
  refine x_iconst (M := M_X12_addSizes) dX12_addSizes_37 ?_
  refine x_istore (M := M_X12_addSizes) dX12_addSizes_38 (Nat.le_of_ble_eq_true rfl) rfl ?_
  refine x_iload (M := M_X12_addSizes) dX12_addSizes_40 rfl ?_
  refine x_iload (M := M_X12_addSizes) dX12_addSizes_42 rfl ?_
  refine x_icmp_ge (M := M_X12_addSizes) (tgt := 99) dX12_addSizes_44 (by decide) (fun q => absurd q (by decide +kernel)) (fun _ => ?_)
  refine x_lload (M := M_X12_addSizes) dX12_addSizes_47 rfl ?_
  refine x_aload_n (M := M_X12_addSizes) dX12_addSizes_49 rfl ?_
  refine x_iload_n (M := M_X12_addSizes) dX12_addSizes_50 rfl ?_
  refine x_iload (M := M_X12_addSizes) dX12_addSizes_51 rfl ?_
  refine x_callVR (M := M_X12_addSizes) (M' := M_X12_limb) rfl rfl dX12_addSizes_53 m_X12_limb t_3182 t_3184 s_216 (q10621 hl o10617 o10618) rfl rfl o10617 rfl (Nat.le_of_ble_eq_true rfl) (Nat.le_of_ble_eq_true rfl) (Nat.le_of_ble_eq_true rfl) (Nat.le_of_ble_eq_true rfl) ?_
  refine x_aload_n (M := M_X12_addSizes) dX12_addSizes_56 rfl ?_
  refine x_iload_n (M := M_X12_addSizes) dX12_addSizes_57 rfl ?_
  refine x_iload (M := M_X12_addSizes) dX12_addSizes_58 rfl ?_
  refine x_callVR (M := M_X12_addSizes) (M' := M_X12_limb) rfl rfl dX12_addSizes_60 m_X12_limb t_3182 t_3184 s_216 (q10624 hl o10617 o10618) rfl rfl o10617 rfl (Nat.le_of_ble_eq_true rfl) (Nat.le_of_ble_eq_true rfl) (Nat.le_of_ble_eq_true rfl) (Nat.le_of_ble_eq_true rfl) ?_
  refine x_ladd (M := M_X12_addSizes) dX12_addSizes_63 ?_
  refine x_ladd (M := M_X12_addSizes) dX12_addSizes_64 ?_
  refine x_topl (M := M_X12_addSizes) (y := (Int64.ofInt 0)) (by decide +kernel) ?_
  refine x_lstore (M := M_X12_addSizes) dX12_addSizes_65 (Nat.le_of_ble_eq_true rfl) rfl ?_
  refine x_aload_n (M := M_X12_addSizes) dX12_addSizes_67 rfl ?_
  refine x_getf (M := M_X12_addSizes) (ci := 15) (C := RX12) (T := TX12) (N := 135) (ty := tyX12) cl15 dX12_addSizes_68 o10617 36 (by decide) t_2427 (v := .ref 294) rfl ?_
  refine x_sipush (M := M_X12_addSizes) dX12_addSizes_71 ?_
  refine x_iload_n (M := M_X12_addSizes) dX12_addSizes_74 rfl ?_
  refine x_imul (M := M_X12_addSizes) dX12_addSizes_75 ?_
  refine x_iload (M := M_X12_addSizes) dX12_addSizes_76 rfl ?_
  refine x_iadd (M := M_X12_addSizes) dX12_addSizes_78 ?_
  refine x_lload (M := M_X12_addSizes) dX12_addSizes_79 rfl ?_
  refine x_ldc2 (M := M_X12_addSizes) dX12_addSizes_81 t_3169 ?_
  refine x_land (M := M_X12_addSizes) dX12_addSizes_84 ?_
  refine x_norm (M := M_X12_addSizes) (st' := [.long (Int64.ofInt 0), .int (Int32.ofInt 4500), .ref 294]) rfl (vj_cons (by decide +kernel : ((Int64.ofInt 0) &&& (4294967295 : Int64)) = (Int64.ofInt 0)) (vi_cons (by decide +kernel : ((((Int16.ofInt 300).toInt32) * (Int32.ofInt 15)) + (Int32.ofInt 0)) = (Int32.ofInt 4500)) rfl)) rfl rfl rfl ?_
  refine y_last (M := M_X12_addSizes) (k := 4500) dX12_addSizes_85 o10625 (vp_inD (by decide +kernel)) (by decide +kernel) (fun h10626 w10627 f10628 => ?_)
  have w10629 : ob h10626 294 = some (.inl (1, 6000, .inr (.inl (fun _ => 0)))) := by rw [w10627, uq_z (k := 4500)]
  refine x_lload (M := M_X12_addSizes) dX12_addSizes_86 rfl ?_
  refine x_bipush (M := M_X12_addSizes) dX12_addSizes_88 ?_
  refine x_lushr (M := M_X12_addSizes) dX12_addSizes_90 ?_
  refine x_topl (M := M_X12_addSizes) (y := (Int64.ofInt 0)) (by decide +kernel) ?_
  refine x_lstore (M := M_X12_addSizes) dX12_addSizes_91 (Nat.le_of_ble_eq_true rfl) rfl ?_
  refine x_lvs (M := M_X12_addSizes) (lv' := [some (.ref 277), some (.int (Int32.ofInt 15)), some (.int (Int32.ofInt 15)), some (.int (Int32.ofInt 12)), some (.int (Int32.ofInt 1)), some (.long (Int64.ofInt 0)), none, some (.int (Int32.ofInt 0))]) rfl ?_
  refine x_iinc (M := M_X12_addSizes) dX12_addSizes_93 rfl (Nat.le_of_ble_eq_true rfl) rfl ?_
  refine x_lvs (M := M_X12_addSizes) (lv' := [some (.ref 277), some (.int (Int32.ofInt 15)), some (.int (Int32.ofInt 15)), some (.int (Int32.ofInt 12)), some (.int (Int32.ofInt 1)), some (.long (Int64.ofInt 0)), none, some (.int (Int32.ofInt 1))]) (by rw [(by decide +kernel : (Int32.ofInt 0) + Int32.ofInt 1 = (Int32.ofInt 1))] <;> rfl) ?_
  refine x_goto (M := M_X12_addSizes) (tgt := 40) dX12_addSizes_96 (by decide) ?_
  refine x_iload (M := M_X12_addSizes) dX12_addSizes_40 rfl ?_
  refine x_iload (M := M_X12_addSizes) dX12_addSizes_42 rfl ?_
  refine x_icmp_ge (M := M_X12_addSizes) (tgt := 99) dX12_addSizes_44 (by decide) (fun _ => ?_) (fun q => absurd q (by decide +kernel))
  refine x_aload_n (M := M_X12_addSizes) dX12_addSizes_99 rfl ?_
  have o10630 := (f10628 277 _ (by decide) o10617)
  refine x_getf (M := M_X12_addSizes) (ci := 15) (C := RX12) (T := TX12) (N := 135) (ty := tyX12) cl15 dX12_addSizes_100 o10630 37 (by decide) t_2428 (v := .ref 295) rfl ?_
  refine x_iload_n (M := M_X12_addSizes) dX12_addSizes_103 rfl ?_
  refine x_iload (M := M_X12_addSizes) dX12_addSizes_104 rfl ?_
  have o10631 := (f10628 295 _ (by decide) o10618)
  refine y_iast (M := M_X12_addSizes) (k := 15) dX12_addSizes_106 o10631 (vp_inD (by decide +kernel)) (by decide +kernel) (fun h10632 w10633 f10634 => ?_)
  have o10635 := (f10634 294 _ (by decide) w10629)
  exact x_vret (M := M_X12_addSizes) dX12_addSizes_107 rfl ⟨rfl, (fr_tr f10634 (by decide) (fr_tr f10628 (by decide) fr_rf)), ⟨o10635, w10633, trivial⟩⟩ (Nat.le_of_ble_eq_true rfl) (Nat.le_of_ble_eq_true rfl)
set_option maxRecDepth 10000 in
theorem q10665 {l : Launch} {E : EE} (hl : l.stackTraces = false) {h : HP} {dg : Int32} (o10650 : ob h 277 = some (.inr (15, ((RB dg).set 0 (.int (Int32.ofInt 0)))))) (o10651 : ob h 295 = some (.inl (0, 20, .inl (upd (fun _ => 0) 15 (Int32.ofInt 1))))) (o10652 : ob h 294 = some (.inl (1, 6000, .inr (.inl (fun _ => 0))))) (o10658 : ob h 296 = some (.inl (0, 20, .inl (fun _ => 0)))) : en_C l E M_X12_trim 0 0 0 [.ref 277, .int (Int32.ofInt 15)] h (pF none [295, 296] h (fun h' => ob h' 295 = some (.inl (0, 20, .inl (fun _ => 0))) ∧ ob h' 296 = some (.inl (0, 20, .inl (fun _ => 0))) ∧ True)) := by
  refine en_mk m_X12_trim rfl hl (Nat.le_of_ble_eq_true rfl) ?_
  refine x_aload_n (M := M_X12_trim) dX12_trim_0 rfl ?_
  refine x_getf (M := M_X12_trim) (ci := 15) (C := RX12) (T := TX12) (N := 135) (ty := tyX12) cl15 dX12_trim_1 o10650 37 (by decide) t_2428 (v := .ref 295) rfl ?_
  refine x_iload_n (M := M_X12_trim) dX12_trim_4 rfl ?_
  refine x_iald (M := M_X12_trim) dX12_trim_5 o10651 (vp_inD (by decide +kernel)) ?_
  refine x_top (M := M_X12_trim) (y := (Int32.ofInt 1)) (by decide +kernel) ?_
  refine x_if_le (M := M_X12_trim) (tgt := 46) dX12_trim_6 (by decide) (fun q => absurd q (by decide +kernel)) (fun _ => ?_)
  refine x_aload_n (M := M_X12_trim) dX12_trim_9 rfl ?_
  refine x_getf (M := M_X12_trim) (ci := 15) (C := RX12) (T := TX12) (N := 135) (ty := tyX12) cl15 dX12_trim_10 o10650 36 (by decide) t_2427 (v := .ref 294) rfl ?_
  refine x_sipush (M := M_X12_trim) dX12_trim_13 ?_
  refine x_iload_n (M := M_X12_trim) dX12_trim_16 rfl ?_
  refine x_imul (M := M_X12_trim) dX12_trim_17 ?_
  refine x_aload_n (M := M_X12_trim) dX12_trim_18 rfl ?_
  refine x_getf (M := M_X12_trim) (ci := 15) (C := RX12) (T := TX12) (N := 135) (ty := tyX12) cl15 dX12_trim_19 o10650 37 (by decide) t_2428 (v := .ref 295) rfl ?_
  refine x_iload_n (M := M_X12_trim) dX12_trim_22 rfl ?_
  refine x_iald (M := M_X12_trim) dX12_trim_23 o10651 (vp_inD (by decide +kernel)) ?_
  refine x_top (M := M_X12_trim) (y := (Int32.ofInt 1)) (by decide +kernel) ?_
  refine x_iadd (M := M_X12_trim) dX12_trim_24 ?_
  refine x_iconst (M := M_X12_trim) dX12_trim_25 ?_
  refine x_isub (M := M_X12_trim) dX12_trim_26 ?_
  refine x_lald (M := M_X12_trim) dX12_trim_27 o10652 (vp_inD (by decide +kernel)) ?_
  refine x_topl (M := M_X12_trim) (y := (Int64.ofInt 0)) (by decide +kernel) ?_
  refine x_lconst (M := M_X12_trim) dX12_trim_28 ?_
  refine x_lcmp (M := M_X12_trim) dX12_trim_29 ?_
  refine x_if_ne (M := M_X12_trim) (tgt := 46) dX12_trim_30 (by decide) (fun q => absurd q (by decide +kernel)) (fun _ => ?_)
  refine x_aload_n (M := M_X12_trim) dX12_trim_33 rfl ?_
  refine x_getf (M := M_X12_trim) (ci := 15) (C := RX12) (T := TX12) (N := 135) (ty := tyX12) cl15 dX12_trim_34 o10650 37 (by decide) t_2428 (v := .ref 295) rfl ?_
  refine x_iload_n (M := M_X12_trim) dX12_trim_37 rfl ?_
  refine x_dup2 (M := M_X12_trim) dX12_trim_38 rfl rfl ?_
  refine x_iald (M := M_X12_trim) dX12_trim_39 o10651 (vp_inD (by decide +kernel)) ?_
  refine x_top (M := M_X12_trim) (y := (Int32.ofInt 1)) (by decide +kernel) ?_
  refine x_iconst (M := M_X12_trim) dX12_trim_40 ?_
  refine x_isub (M := M_X12_trim) dX12_trim_41 ?_
  refine x_norm (M := M_X12_trim) (st' := [.int (Int32.ofInt 0), .int (Int32.ofInt 15), .ref 295]) rfl (vi_cons (by decide +kernel : ((Int32.ofInt 1) - (Int32.ofInt 1)) = (Int32.ofInt 0)) rfl) rfl rfl rfl ?_
  refine y_iast (M := M_X12_trim) (k := 15) dX12_trim_42 o10651 (vp_inD (by decide +kernel)) (by decide +kernel) (fun h10653 w10654 f10655 => ?_)
  have w10656 : ob h10653 295 = some (.inl (0, 20, .inl (fun _ => 0))) := by rw [w10654, up_up (k := 15), up_z (k := 15)]
  refine x_goto (M := M_X12_trim) (tgt := 0) dX12_trim_43 (by decide) ?_
  refine x_aload_n (M := M_X12_trim) dX12_trim_0 rfl ?_
  have o10657 := (f10655 277 _ (by decide) o10650)
  refine x_getf (M := M_X12_trim) (ci := 15) (C := RX12) (T := TX12) (N := 135) (ty := tyX12) cl15 dX12_trim_1 o10657 37 (by decide) t_2428 (v := .ref 295) rfl ?_
  refine x_iload_n (M := M_X12_trim) dX12_trim_4 rfl ?_
  refine x_iald (M := M_X12_trim) dX12_trim_5 w10656 (vp_inD (by decide +kernel)) ?_
  refine x_top (M := M_X12_trim) (y := (Int32.ofInt 0)) (by decide +kernel) ?_
  refine x_if_le (M := M_X12_trim) (tgt := 46) dX12_trim_6 (by decide) (fun _ => ?_) (fun q => absurd q (by decide +kernel))
  refine x_aload_n (M := M_X12_trim) dX12_trim_46 rfl ?_
  refine x_getf (M := M_X12_trim) (ci := 15) (C := RX12) (T := TX12) (N := 135) (ty := tyX12) cl15 dX12_trim_47 o10657 37 (by decide) t_2428 (v := .ref 295) rfl ?_
  refine x_iload_n (M := M_X12_trim) dX12_trim_50 rfl ?_
  refine x_iald (M := M_X12_trim) dX12_trim_51 w10656 (vp_inD (by decide +kernel)) ?_
  refine x_top (M := M_X12_trim) (y := (Int32.ofInt 0)) (by decide +kernel) ?_
  refine x_if_ne (M := M_X12_trim) (tgt := 62) dX12_trim_52 (by decide) (fun q => absurd q (by decide +kernel)) (fun _ => ?_)
  refine x_aload_n (M := M_X12_trim) dX12_trim_55 rfl ?_
  refine x_getf (M := M_X12_trim) (ci := 15) (C := RX12) (T := TX12) (N := 135) (ty := tyX12) cl15 dX12_trim_56 o10657 38 (by decide) t_2429 (v := .ref 296) rfl ?_
  refine x_iload_n (M := M_X12_trim) dX12_trim_59 rfl ?_
  refine x_iconst (M := M_X12_trim) dX12_trim_60 ?_
  have o10659 := (f10655 296 _ (by decide) o10658)
  refine y_iast (M := M_X12_trim) (k := 15) dX12_trim_61 o10659 (vp_inD (by decide +kernel)) (by decide +kernel) (fun h10660 w10661 f10662 => ?_)
  have w10663 : ob h10660 296 = some (.inl (0, 20, .inl (fun _ => 0))) := by rw [w10661, up_z (k := 15)]
  have o10664 := (f10662 295 _ (by decide) w10656)
  exact x_vret (M := M_X12_trim) dX12_trim_62 rfl ⟨rfl, (fr_tr f10662 (by decide) (fr_tr f10655 (by decide) fr_rf)), ⟨o10664, w10663, trivial⟩⟩ (Nat.le_of_ble_eq_true rfl) (Nat.le_of_ble_eq_true rfl)
set_option maxRecDepth 10000 in
theorem q10675 {l : Launch} {E : EE} (hl : l.stackTraces = false) {h : HP} {dg : Int32} (o10615 : ob h 277 = some (.inr (15, ((RB dg).set 0 (.int (Int32.ofInt 0)))))) (o10616 : ob h 296 = some (.inl (0, 20, .inl (fun _ => 0)))) (o10637 : ob h 295 = some (.inl (0, 20, .inl (fun _ => 0)))) (o10638 : ob h 294 = some (.inl (1, 6000, .inr (.inl (fun _ => 0))))) : en_C l E M_X12_add 2 0 0 [.ref 277, .int (Int32.ofInt 15), .int (Int32.ofInt 15), .int (Int32.ofInt 12), .int (Int32.ofInt 0)] h (pF none [294, 295, 296] h (fun h' => ob h' 294 = some (.inl (1, 6000, .inr (.inl (fun _ => 0)))) ∧ ob h' 295 = some (.inl (0, 20, .inl (fun _ => 0))) ∧ ob h' 296 = some (.inl (0, 20, .inl (fun _ => 0))) ∧ True)) := by
  refine en_mk m_X12_add rfl hl (Nat.le_of_ble_eq_true rfl) ?_
  refine x_aload_n (M := M_X12_add) dX12_add_0 rfl ?_
  refine x_getf (M := M_X12_add) (ci := 15) (C := RX12) (T := TX12) (N := 135) (ty := tyX12) cl15 dX12_add_1 o10615 38 (by decide) t_2429 (v := .ref 296) rfl ?_
  refine x_iload_n (M := M_X12_add) dX12_add_4 rfl ?_
  refine x_iald (M := M_X12_add) dX12_add_5 o10616 (vp_inD (by decide +kernel)) ?_
  refine x_top (M := M_X12_add) (y := (Int32.ofInt 0)) (by decide +kernel) ?_
  refine x_istore (M := M_X12_add) dX12_add_6 (Nat.le_of_ble_eq_true rfl) rfl ?_
  refine x_iload (M := M_X12_add) dX12_add_8 rfl ?_
  refine x_if_eq (M := M_X12_add) (tgt := 23) dX12_add_10 (by decide) (fun _ => ?_) (fun q => absurd q (by decide +kernel))
  refine x_aload_n (M := M_X12_add) dX12_add_23 rfl ?_
  refine x_getf (M := M_X12_add) (ci := 15) (C := RX12) (T := TX12) (N := 135) (ty := tyX12) cl15 dX12_add_24 o10615 38 (by decide) t_2429 (v := .ref 296) rfl ?_
  refine x_iload_n (M := M_X12_add) dX12_add_27 rfl ?_
  refine x_iald (M := M_X12_add) dX12_add_28 o10616 (vp_inD (by decide +kernel)) ?_
  refine x_top (M := M_X12_add) (y := (Int32.ofInt 0)) (by decide +kernel) ?_
  refine x_istore (M := M_X12_add) dX12_add_29 (Nat.le_of_ble_eq_true rfl) rfl ?_
  refine x_iload (M := M_X12_add) dX12_add_31 rfl ?_
  refine x_if_eq (M := M_X12_add) (tgt := 48) dX12_add_33 (by decide) (fun _ => ?_) (fun q => absurd q (by decide +kernel))
  refine x_aload_n (M := M_X12_add) dX12_add_48 rfl ?_
  refine x_iload_n (M := M_X12_add) dX12_add_49 rfl ?_
  refine x_iload_n (M := M_X12_add) dX12_add_50 rfl ?_
  refine x_iload_n (M := M_X12_add) dX12_add_51 rfl ?_
  refine y_callVR (M := M_X12_add) (M' := M_X12_addSizes) rfl rfl dX12_add_52 m_X12_addSizes t_3178 t_3180 s_215 (q10636 hl o10615 o10637 o10638) rfl rfl o10615 rfl (Nat.le_of_ble_eq_true rfl) (Nat.le_of_ble_eq_true rfl) (Nat.le_of_ble_eq_true rfl) (Nat.le_of_ble_eq_true rfl) (fun h10639 f10640 w10641 => ?_)
  obtain ⟨o10642, o10643, -⟩ := w10641
  refine x_aload_n (M := M_X12_add) dX12_add_55 rfl ?_
  have o10644 := (f10640 277 _ (by decide) o10615)
  refine x_getf (M := M_X12_add) (ci := 15) (C := RX12) (T := TX12) (N := 135) (ty := tyX12) cl15 dX12_add_56 o10644 38 (by decide) t_2429 (v := .ref 296) rfl ?_
  refine x_iload_n (M := M_X12_add) dX12_add_59 rfl ?_
  refine x_iload (M := M_X12_add) dX12_add_60 rfl ?_
  refine x_if_ne (M := M_X12_add) (tgt := 70) dX12_add_62 (by decide) (fun q => absurd q (by decide +kernel)) (fun _ => ?_)
  refine x_iload (M := M_X12_add) dX12_add_65 rfl ?_
  refine x_goto (M := M_X12_add) (tgt := 72) dX12_add_67 (by decide) ?_
  have o10645 := (f10640 296 _ (by decide) o10616)
  refine y_iast (M := M_X12_add) (k := 15) dX12_add_72 o10645 (vp_inD (by decide +kernel)) (by decide +kernel) (fun h10646 w10647 f10648 => ?_)
  have w10649 : ob h10646 296 = some (.inl (0, 20, .inl (fun _ => 0))) := by rw [w10647, up_z (k := 15)]
  refine x_goto (M := M_X12_add) (tgt := 118) dX12_add_73 (by decide) ?_
  refine x_aload_n (M := M_X12_add) dX12_add_118 rfl ?_
  refine x_iload_n (M := M_X12_add) dX12_add_119 rfl ?_
  have o10666 := (f10648 277 _ (by decide) o10644)
  have o10667 := (f10648 295 _ (by decide) o10643)
  have o10668 := (f10648 294 _ (by decide) o10642)
  refine y_callVR (M := M_X12_add) (M' := M_X12_trim) rfl rfl dX12_add_120 m_X12_trim t_3170 t_3172 s_213 (q10665 hl o10666 o10667 o10668 w10649) rfl rfl o10666 rfl (Nat.le_of_ble_eq_true rfl) (Nat.le_of_ble_eq_true rfl) (Nat.le_of_ble_eq_true rfl) (Nat.le_of_ble_eq_true rfl) (fun h10669 f10670 w10671 => ?_)
  obtain ⟨o10672, o10673, -⟩ := w10671
  have o10674 := (f10670 294 _ (by decide) o10668)
  exact x_vret (M := M_X12_add) dX12_add_123 rfl ⟨rfl, (fr_tr f10670 (by decide) (fr_tr f10648 (by decide) (fr_tr f10640 (by decide) fr_rf))), ⟨o10674, o10672, o10673, trivial⟩⟩ (Nat.le_of_ble_eq_true rfl) (Nat.le_of_ble_eq_true rfl)
set_option maxRecDepth 10000 in
theorem q10704 {l : Launch} {E : EE} (hl : l.stackTraces = false) {h : HP} {dg : Int32} (o10684 : ob h 277 = some (.inr (15, ((RB dg).set 0 (.int (Int32.ofInt 0)))))) (o10685 : ob h 295 = some (.inl (0, 20, .inl (fun _ => 0)))) (o10691 : ob h 296 = some (.inl (0, 20, .inl (fun _ => 0)))) : en_C l E M_X12_times 1 0 0 [.ref 277, .int (Int32.ofInt 9), .int (Int32.ofInt 7), .int (Int32.ofInt 2)] h (pF none [295, 296] h (fun h' => ob h' 295 = some (.inl (0, 20, .inl (fun _ => 0))) ∧ ob h' 296 = some (.inl (0, 20, .inl (fun _ => 0))) ∧ True)) := by
  refine en_mk m_X12_times rfl hl (Nat.le_of_ble_eq_true rfl) ?_
  refine x_aload_n (M := M_X12_times) dX12_times_0 rfl ?_
  refine x_getf (M := M_X12_times) (ci := 15) (C := RX12) (T := TX12) (N := 135) (ty := tyX12) cl15 dX12_times_1 o10684 37 (by decide) t_2428 (v := .ref 295) rfl ?_
  refine x_iload_n (M := M_X12_times) dX12_times_4 rfl ?_
  refine x_iald (M := M_X12_times) dX12_times_5 o10685 (vp_inD (by decide +kernel)) ?_
  refine x_top (M := M_X12_times) (y := (Int32.ofInt 0)) (by decide +kernel) ?_
  refine x_aload_n (M := M_X12_times) dX12_times_6 rfl ?_
  refine x_getf (M := M_X12_times) (ci := 15) (C := RX12) (T := TX12) (N := 135) (ty := tyX12) cl15 dX12_times_7 o10684 37 (by decide) t_2428 (v := .ref 295) rfl ?_
  refine x_iload_n (M := M_X12_times) dX12_times_10 rfl ?_
  refine x_iald (M := M_X12_times) dX12_times_11 o10685 (vp_inD (by decide +kernel)) ?_
  refine x_top (M := M_X12_times) (y := (Int32.ofInt 0)) (by decide +kernel) ?_
  refine x_iadd (M := M_X12_times) dX12_times_12 ?_
  refine x_top (M := M_X12_times) (y := (Int32.ofInt 0)) (by decide +kernel) ?_
  refine x_istore (M := M_X12_times) dX12_times_13 (Nat.le_of_ble_eq_true rfl) rfl ?_
  refine x_iconst (M := M_X12_times) dX12_times_15 ?_
  refine x_istore (M := M_X12_times) dX12_times_16 (Nat.le_of_ble_eq_true rfl) rfl ?_
  refine x_iload (M := M_X12_times) dX12_times_18 rfl ?_
  refine x_iload (M := M_X12_times) dX12_times_20 rfl ?_
  refine x_icmp_ge (M := M_X12_times) (tgt := 45) dX12_times_22 (by decide) (fun _ => ?_) (fun q => absurd q (by decide +kernel))
  refine x_iconst (M := M_X12_times) dX12_times_45 ?_
  refine x_istore (M := M_X12_times) dX12_times_46 (Nat.le_of_ble_eq_true rfl) rfl ?_
  refine x_iload (M := M_X12_times) dX12_times_48 rfl ?_
  refine x_aload_n (M := M_X12_times) dX12_times_50 rfl ?_
  refine x_getf (M := M_X12_times) (ci := 15) (C := RX12) (T := TX12) (N := 135) (ty := tyX12) cl15 dX12_times_51 o10684 37 (by decide) t_2428 (v := .ref 295) rfl ?_
  refine x_iload_n (M := M_X12_times) dX12_times_54 rfl ?_
  refine x_iald (M := M_X12_times) dX12_times_55 o10685 (vp_inD (by decide +kernel)) ?_
  refine x_top (M := M_X12_times) (y := (Int32.ofInt 0)) (by decide +kernel) ?_
  refine x_icmp_ge (M := M_X12_times) (tgt := 188) dX12_times_56 (by decide) (fun _ => ?_) (fun q => absurd q (by decide +kernel))
  refine x_aload_n (M := M_X12_times) dX12_times_188 rfl ?_
  refine x_getf (M := M_X12_times) (ci := 15) (C := RX12) (T := TX12) (N := 135) (ty := tyX12) cl15 dX12_times_189 o10684 37 (by decide) t_2428 (v := .ref 295) rfl ?_
  refine x_iload_n (M := M_X12_times) dX12_times_192 rfl ?_
  refine x_iload (M := M_X12_times) dX12_times_193 rfl ?_
  refine y_iast (M := M_X12_times) (k := 9) dX12_times_195 o10685 (vp_inD (by decide +kernel)) (by decide +kernel) (fun h10686 w10687 f10688 => ?_)
  have w10689 : ob h10686 295 = some (.inl (0, 20, .inl (fun _ => 0))) := by rw [w10687, up_z (k := 9)]
  refine x_aload_n (M := M_X12_times) dX12_times_196 rfl ?_
  have o10690 := (f10688 277 _ (by decide) o10684)
  refine x_getf (M := M_X12_times) (ci := 15) (C := RX12) (T := TX12) (N := 135) (ty := tyX12) cl15 dX12_times_197 o10690 38 (by decide) t_2429 (v := .ref 296) rfl ?_
  refine x_iload_n (M := M_X12_times) dX12_times_200 rfl ?_
  refine x_aload_n (M := M_X12_times) dX12_times_201 rfl ?_
  refine x_getf (M := M_X12_times) (ci := 15) (C := RX12) (T := TX12) (N := 135) (ty := tyX12) cl15 dX12_times_202 o10690 38 (by decide) t_2429 (v := .ref 296) rfl ?_
  refine x_iload_n (M := M_X12_times) dX12_times_205 rfl ?_
  have o10692 := (f10688 296 _ (by decide) o10691)
  refine x_iald (M := M_X12_times) dX12_times_206 o10692 (vp_inD (by decide +kernel)) ?_
  refine x_top (M := M_X12_times) (y := (Int32.ofInt 0)) (by decide +kernel) ?_
  refine x_aload_n (M := M_X12_times) dX12_times_207 rfl ?_
  refine x_getf (M := M_X12_times) (ci := 15) (C := RX12) (T := TX12) (N := 135) (ty := tyX12) cl15 dX12_times_208 o10690 38 (by decide) t_2429 (v := .ref 296) rfl ?_
  refine x_iload_n (M := M_X12_times) dX12_times_211 rfl ?_
  refine x_iald (M := M_X12_times) dX12_times_212 o10692 (vp_inD (by decide +kernel)) ?_
  refine x_top (M := M_X12_times) (y := (Int32.ofInt 0)) (by decide +kernel) ?_
  refine x_imul (M := M_X12_times) dX12_times_213 ?_
  refine x_norm (M := M_X12_times) (st' := [.int (Int32.ofInt 0), .int (Int32.ofInt 9), .ref 296]) rfl (vi_cons (by decide +kernel : ((Int32.ofInt 0) * (Int32.ofInt 0)) = (Int32.ofInt 0)) rfl) rfl rfl rfl ?_
  refine y_iast (M := M_X12_times) (k := 9) dX12_times_214 o10692 (vp_inD (by decide +kernel)) (by decide +kernel) (fun h10693 w10694 f10695 => ?_)
  have w10696 : ob h10693 296 = some (.inl (0, 20, .inl (fun _ => 0))) := by rw [w10694, up_z (k := 9)]
  refine x_aload_n (M := M_X12_times) dX12_times_215 rfl ?_
  refine x_iload_n (M := M_X12_times) dX12_times_216 rfl ?_
  have o10697 := (f10695 277 _ (by decide) o10690)
  have o10698 := (f10695 295 _ (by decide) w10689)
  refine y_callVR (M := M_X12_times) (M' := M_X12_trim) rfl rfl dX12_times_217 m_X12_trim t_3170 t_3172 s_213 (q10028 hl o10697 o10698 w10696) rfl rfl o10697 rfl (Nat.le_of_ble_eq_true rfl) (Nat.le_of_ble_eq_true rfl) (Nat.le_of_ble_eq_true rfl) (Nat.le_of_ble_eq_true rfl) (fun h10699 f10700 w10701 => ?_)
  obtain ⟨o10702, -⟩ := w10701
  have o10703 := (f10700 295 _ (by decide) o10698)
  exact x_vret (M := M_X12_times) dX12_times_220 rfl ⟨rfl, (fr_tr f10700 (by decide) (fr_tr f10695 (by decide) (fr_tr f10688 (by decide) fr_rf))), ⟨o10703, o10702, trivial⟩⟩ (Nat.le_of_ble_eq_true rfl) (Nat.le_of_ble_eq_true rfl)
set_option maxRecDepth 10000 in
theorem q10731 {l : Launch} {E : EE} (hl : l.stackTraces = false) {h : HP} {dg : Int32} (o10711 : ob h 277 = some (.inr (15, ((RB dg).set 0 (.int (Int32.ofInt 0)))))) (o10712 : ob h 295 = some (.inl (0, 20, .inl (fun _ => 0)))) (o10718 : ob h 296 = some (.inl (0, 20, .inl (fun _ => 0)))) : en_C l E M_X12_times 1 0 0 [.ref 277, .int (Int32.ofInt 10), .int (Int32.ofInt 8), .int (Int32.ofInt 1)] h (pF none [295, 296] h (fun h' => ob h' 295 = some (.inl (0, 20, .inl (fun _ => 0))) ∧ ob h' 296 = some (.inl (0, 20, .inl (fun _ => 0))) ∧ True)) := by
  refine en_mk m_X12_times rfl hl (Nat.le_of_ble_eq_true rfl) ?_
  refine x_aload_n (M := M_X12_times) dX12_times_0 rfl ?_
  refine x_getf (M := M_X12_times) (ci := 15) (C := RX12) (T := TX12) (N := 135) (ty := tyX12) cl15 dX12_times_1 o10711 37 (by decide) t_2428 (v := .ref 295) rfl ?_
  refine x_iload_n (M := M_X12_times) dX12_times_4 rfl ?_
  refine x_iald (M := M_X12_times) dX12_times_5 o10712 (vp_inD (by decide +kernel)) ?_
  refine x_top (M := M_X12_times) (y := (Int32.ofInt 0)) (by decide +kernel) ?_
  refine x_aload_n (M := M_X12_times) dX12_times_6 rfl ?_
  refine x_getf (M := M_X12_times) (ci := 15) (C := RX12) (T := TX12) (N := 135) (ty := tyX12) cl15 dX12_times_7 o10711 37 (by decide) t_2428 (v := .ref 295) rfl ?_
  refine x_iload_n (M := M_X12_times) dX12_times_10 rfl ?_
  refine x_iald (M := M_X12_times) dX12_times_11 o10712 (vp_inD (by decide +kernel)) ?_
  refine x_top (M := M_X12_times) (y := (Int32.ofInt 0)) (by decide +kernel) ?_
  refine x_iadd (M := M_X12_times) dX12_times_12 ?_
  refine x_top (M := M_X12_times) (y := (Int32.ofInt 0)) (by decide +kernel) ?_
  refine x_istore (M := M_X12_times) dX12_times_13 (Nat.le_of_ble_eq_true rfl) rfl ?_
  refine x_iconst (M := M_X12_times) dX12_times_15 ?_
  refine x_istore (M := M_X12_times) dX12_times_16 (Nat.le_of_ble_eq_true rfl) rfl ?_
  refine x_iload (M := M_X12_times) dX12_times_18 rfl ?_
  refine x_iload (M := M_X12_times) dX12_times_20 rfl ?_
  refine x_icmp_ge (M := M_X12_times) (tgt := 45) dX12_times_22 (by decide) (fun _ => ?_) (fun q => absurd q (by decide +kernel))
  refine x_iconst (M := M_X12_times) dX12_times_45 ?_
  refine x_istore (M := M_X12_times) dX12_times_46 (Nat.le_of_ble_eq_true rfl) rfl ?_
  refine x_iload (M := M_X12_times) dX12_times_48 rfl ?_
  refine x_aload_n (M := M_X12_times) dX12_times_50 rfl ?_
  refine x_getf (M := M_X12_times) (ci := 15) (C := RX12) (T := TX12) (N := 135) (ty := tyX12) cl15 dX12_times_51 o10711 37 (by decide) t_2428 (v := .ref 295) rfl ?_
  refine x_iload_n (M := M_X12_times) dX12_times_54 rfl ?_
  refine x_iald (M := M_X12_times) dX12_times_55 o10712 (vp_inD (by decide +kernel)) ?_
  refine x_top (M := M_X12_times) (y := (Int32.ofInt 0)) (by decide +kernel) ?_
  refine x_icmp_ge (M := M_X12_times) (tgt := 188) dX12_times_56 (by decide) (fun _ => ?_) (fun q => absurd q (by decide +kernel))
  refine x_aload_n (M := M_X12_times) dX12_times_188 rfl ?_
  refine x_getf (M := M_X12_times) (ci := 15) (C := RX12) (T := TX12) (N := 135) (ty := tyX12) cl15 dX12_times_189 o10711 37 (by decide) t_2428 (v := .ref 295) rfl ?_
  refine x_iload_n (M := M_X12_times) dX12_times_192 rfl ?_
  refine x_iload (M := M_X12_times) dX12_times_193 rfl ?_
  refine y_iast (M := M_X12_times) (k := 10) dX12_times_195 o10712 (vp_inD (by decide +kernel)) (by decide +kernel) (fun h10713 w10714 f10715 => ?_)
  have w10716 : ob h10713 295 = some (.inl (0, 20, .inl (fun _ => 0))) := by rw [w10714, up_z (k := 10)]
  refine x_aload_n (M := M_X12_times) dX12_times_196 rfl ?_
  have o10717 := (f10715 277 _ (by decide) o10711)
  refine x_getf (M := M_X12_times) (ci := 15) (C := RX12) (T := TX12) (N := 135) (ty := tyX12) cl15 dX12_times_197 o10717 38 (by decide) t_2429 (v := .ref 296) rfl ?_
  refine x_iload_n (M := M_X12_times) dX12_times_200 rfl ?_
  refine x_aload_n (M := M_X12_times) dX12_times_201 rfl ?_
  refine x_getf (M := M_X12_times) (ci := 15) (C := RX12) (T := TX12) (N := 135) (ty := tyX12) cl15 dX12_times_202 o10717 38 (by decide) t_2429 (v := .ref 296) rfl ?_
  refine x_iload_n (M := M_X12_times) dX12_times_205 rfl ?_
  have o10719 := (f10715 296 _ (by decide) o10718)
  refine x_iald (M := M_X12_times) dX12_times_206 o10719 (vp_inD (by decide +kernel)) ?_
  refine x_top (M := M_X12_times) (y := (Int32.ofInt 0)) (by decide +kernel) ?_
  refine x_aload_n (M := M_X12_times) dX12_times_207 rfl ?_
  refine x_getf (M := M_X12_times) (ci := 15) (C := RX12) (T := TX12) (N := 135) (ty := tyX12) cl15 dX12_times_208 o10717 38 (by decide) t_2429 (v := .ref 296) rfl ?_
  refine x_iload_n (M := M_X12_times) dX12_times_211 rfl ?_
  refine x_iald (M := M_X12_times) dX12_times_212 o10719 (vp_inD (by decide +kernel)) ?_
  refine x_top (M := M_X12_times) (y := (Int32.ofInt 0)) (by decide +kernel) ?_
  refine x_imul (M := M_X12_times) dX12_times_213 ?_
  refine x_norm (M := M_X12_times) (st' := [.int (Int32.ofInt 0), .int (Int32.ofInt 10), .ref 296]) rfl (vi_cons (by decide +kernel : ((Int32.ofInt 0) * (Int32.ofInt 0)) = (Int32.ofInt 0)) rfl) rfl rfl rfl ?_
  refine y_iast (M := M_X12_times) (k := 10) dX12_times_214 o10719 (vp_inD (by decide +kernel)) (by decide +kernel) (fun h10720 w10721 f10722 => ?_)
  have w10723 : ob h10720 296 = some (.inl (0, 20, .inl (fun _ => 0))) := by rw [w10721, up_z (k := 10)]
  refine x_aload_n (M := M_X12_times) dX12_times_215 rfl ?_
  refine x_iload_n (M := M_X12_times) dX12_times_216 rfl ?_
  have o10724 := (f10722 277 _ (by decide) o10717)
  have o10725 := (f10722 295 _ (by decide) w10716)
  refine y_callVR (M := M_X12_times) (M' := M_X12_trim) rfl rfl dX12_times_217 m_X12_trim t_3170 t_3172 s_213 (q10065 hl o10724 o10725 w10723) rfl rfl o10724 rfl (Nat.le_of_ble_eq_true rfl) (Nat.le_of_ble_eq_true rfl) (Nat.le_of_ble_eq_true rfl) (Nat.le_of_ble_eq_true rfl) (fun h10726 f10727 w10728 => ?_)
  obtain ⟨o10729, -⟩ := w10728
  have o10730 := (f10727 295 _ (by decide) o10725)
  exact x_vret (M := M_X12_times) dX12_times_220 rfl ⟨rfl, (fr_tr f10727 (by decide) (fr_tr f10722 (by decide) (fr_tr f10715 (by decide) fr_rf))), ⟨o10730, o10729, trivial⟩⟩ (Nat.le_of_ble_eq_true rfl) (Nat.le_of_ble_eq_true rfl)
set_option maxRecDepth 10000 in
theorem q10766 {l : Launch} {E : EE} (hl : l.stackTraces = false) {h : HP} {dg : Int32} (o10746 : ob h 277 = some (.inr (15, ((RB dg).set 0 (.int (Int32.ofInt 0)))))) (o10747 : ob h 295 = some (.inl (0, 20, .inl (fun _ => 0)))) (o10753 : ob h 296 = some (.inl (0, 20, .inl (fun _ => 0)))) : en_C l E M_X12_times 1 0 0 [.ref 277, .int (Int32.ofInt 12), .int (Int32.ofInt 3), .int (Int32.ofInt 11)] h (pF none [295, 296] h (fun h' => ob h' 295 = some (.inl (0, 20, .inl (fun _ => 0))) ∧ ob h' 296 = some (.inl (0, 20, .inl (fun _ => 0))) ∧ True)) := by
  refine en_mk m_X12_times rfl hl (Nat.le_of_ble_eq_true rfl) ?_
  refine x_aload_n (M := M_X12_times) dX12_times_0 rfl ?_
  refine x_getf (M := M_X12_times) (ci := 15) (C := RX12) (T := TX12) (N := 135) (ty := tyX12) cl15 dX12_times_1 o10746 37 (by decide) t_2428 (v := .ref 295) rfl ?_
  refine x_iload_n (M := M_X12_times) dX12_times_4 rfl ?_
  refine x_iald (M := M_X12_times) dX12_times_5 o10747 (vp_inD (by decide +kernel)) ?_
  refine x_top (M := M_X12_times) (y := (Int32.ofInt 0)) (by decide +kernel) ?_
  refine x_aload_n (M := M_X12_times) dX12_times_6 rfl ?_
  refine x_getf (M := M_X12_times) (ci := 15) (C := RX12) (T := TX12) (N := 135) (ty := tyX12) cl15 dX12_times_7 o10746 37 (by decide) t_2428 (v := .ref 295) rfl ?_
  refine x_iload_n (M := M_X12_times) dX12_times_10 rfl ?_
  refine x_iald (M := M_X12_times) dX12_times_11 o10747 (vp_inD (by decide +kernel)) ?_
  refine x_top (M := M_X12_times) (y := (Int32.ofInt 0)) (by decide +kernel) ?_
  refine x_iadd (M := M_X12_times) dX12_times_12 ?_
  refine x_top (M := M_X12_times) (y := (Int32.ofInt 0)) (by decide +kernel) ?_
  refine x_istore (M := M_X12_times) dX12_times_13 (Nat.le_of_ble_eq_true rfl) rfl ?_
  refine x_iconst (M := M_X12_times) dX12_times_15 ?_
  refine x_istore (M := M_X12_times) dX12_times_16 (Nat.le_of_ble_eq_true rfl) rfl ?_
  refine x_iload (M := M_X12_times) dX12_times_18 rfl ?_
  refine x_iload (M := M_X12_times) dX12_times_20 rfl ?_
  refine x_icmp_ge (M := M_X12_times) (tgt := 45) dX12_times_22 (by decide) (fun _ => ?_) (fun q => absurd q (by decide +kernel))
  refine x_iconst (M := M_X12_times) dX12_times_45 ?_
  refine x_istore (M := M_X12_times) dX12_times_46 (Nat.le_of_ble_eq_true rfl) rfl ?_
  refine x_iload (M := M_X12_times) dX12_times_48 rfl ?_
  refine x_aload_n (M := M_X12_times) dX12_times_50 rfl ?_
  refine x_getf (M := M_X12_times) (ci := 15) (C := RX12) (T := TX12) (N := 135) (ty := tyX12) cl15 dX12_times_51 o10746 37 (by decide) t_2428 (v := .ref 295) rfl ?_
  refine x_iload_n (M := M_X12_times) dX12_times_54 rfl ?_
  refine x_iald (M := M_X12_times) dX12_times_55 o10747 (vp_inD (by decide +kernel)) ?_
  refine x_top (M := M_X12_times) (y := (Int32.ofInt 0)) (by decide +kernel) ?_
  refine x_icmp_ge (M := M_X12_times) (tgt := 188) dX12_times_56 (by decide) (fun _ => ?_) (fun q => absurd q (by decide +kernel))
  refine x_aload_n (M := M_X12_times) dX12_times_188 rfl ?_
  refine x_getf (M := M_X12_times) (ci := 15) (C := RX12) (T := TX12) (N := 135) (ty := tyX12) cl15 dX12_times_189 o10746 37 (by decide) t_2428 (v := .ref 295) rfl ?_
  refine x_iload_n (M := M_X12_times) dX12_times_192 rfl ?_
  refine x_iload (M := M_X12_times) dX12_times_193 rfl ?_
  refine y_iast (M := M_X12_times) (k := 12) dX12_times_195 o10747 (vp_inD (by decide +kernel)) (by decide +kernel) (fun h10748 w10749 f10750 => ?_)
  have w10751 : ob h10748 295 = some (.inl (0, 20, .inl (fun _ => 0))) := by rw [w10749, up_z (k := 12)]
  refine x_aload_n (M := M_X12_times) dX12_times_196 rfl ?_
  have o10752 := (f10750 277 _ (by decide) o10746)
  refine x_getf (M := M_X12_times) (ci := 15) (C := RX12) (T := TX12) (N := 135) (ty := tyX12) cl15 dX12_times_197 o10752 38 (by decide) t_2429 (v := .ref 296) rfl ?_
  refine x_iload_n (M := M_X12_times) dX12_times_200 rfl ?_
  refine x_aload_n (M := M_X12_times) dX12_times_201 rfl ?_
  refine x_getf (M := M_X12_times) (ci := 15) (C := RX12) (T := TX12) (N := 135) (ty := tyX12) cl15 dX12_times_202 o10752 38 (by decide) t_2429 (v := .ref 296) rfl ?_
  refine x_iload_n (M := M_X12_times) dX12_times_205 rfl ?_
  have o10754 := (f10750 296 _ (by decide) o10753)
  refine x_iald (M := M_X12_times) dX12_times_206 o10754 (vp_inD (by decide +kernel)) ?_
  refine x_top (M := M_X12_times) (y := (Int32.ofInt 0)) (by decide +kernel) ?_
  refine x_aload_n (M := M_X12_times) dX12_times_207 rfl ?_
  refine x_getf (M := M_X12_times) (ci := 15) (C := RX12) (T := TX12) (N := 135) (ty := tyX12) cl15 dX12_times_208 o10752 38 (by decide) t_2429 (v := .ref 296) rfl ?_
  refine x_iload_n (M := M_X12_times) dX12_times_211 rfl ?_
  refine x_iald (M := M_X12_times) dX12_times_212 o10754 (vp_inD (by decide +kernel)) ?_
  refine x_top (M := M_X12_times) (y := (Int32.ofInt 0)) (by decide +kernel) ?_
  refine x_imul (M := M_X12_times) dX12_times_213 ?_
  refine x_norm (M := M_X12_times) (st' := [.int (Int32.ofInt 0), .int (Int32.ofInt 12), .ref 296]) rfl (vi_cons (by decide +kernel : ((Int32.ofInt 0) * (Int32.ofInt 0)) = (Int32.ofInt 0)) rfl) rfl rfl rfl ?_
  refine y_iast (M := M_X12_times) (k := 12) dX12_times_214 o10754 (vp_inD (by decide +kernel)) (by decide +kernel) (fun h10755 w10756 f10757 => ?_)
  have w10758 : ob h10755 296 = some (.inl (0, 20, .inl (fun _ => 0))) := by rw [w10756, up_z (k := 12)]
  refine x_aload_n (M := M_X12_times) dX12_times_215 rfl ?_
  refine x_iload_n (M := M_X12_times) dX12_times_216 rfl ?_
  have o10759 := (f10757 277 _ (by decide) o10752)
  have o10760 := (f10757 295 _ (by decide) w10751)
  refine y_callVR (M := M_X12_times) (M' := M_X12_trim) rfl rfl dX12_times_217 m_X12_trim t_3170 t_3172 s_213 (q10600 hl o10759 o10760 w10758) rfl rfl o10759 rfl (Nat.le_of_ble_eq_true rfl) (Nat.le_of_ble_eq_true rfl) (Nat.le_of_ble_eq_true rfl) (Nat.le_of_ble_eq_true rfl) (fun h10761 f10762 w10763 => ?_)
  obtain ⟨o10764, -⟩ := w10763
  have o10765 := (f10762 295 _ (by decide) o10760)
  exact x_vret (M := M_X12_times) dX12_times_220 rfl ⟨rfl, (fr_tr f10762 (by decide) (fr_tr f10757 (by decide) (fr_tr f10750 (by decide) fr_rf))), ⟨o10765, o10764, trivial⟩⟩ (Nat.le_of_ble_eq_true rfl) (Nat.le_of_ble_eq_true rfl)
set_option maxRecDepth 10000 in
theorem q10801 {l : Launch} {E : EE} (hl : l.stackTraces = false) {h : HP} {dg : Int32} (o10781 : ob h 277 = some (.inr (15, ((RB dg).set 0 (.int (Int32.ofInt 0)))))) (o10782 : ob h 295 = some (.inl (0, 20, .inl (fun _ => 0)))) (o10788 : ob h 296 = some (.inl (0, 20, .inl (fun _ => 0)))) : en_C l E M_X12_times 1 0 0 [.ref 277, .int (Int32.ofInt 9), .int (Int32.ofInt 1), .int (Int32.ofInt 5)] h (pF none [295, 296] h (fun h' => ob h' 295 = some (.inl (0, 20, .inl (fun _ => 0))) ∧ ob h' 296 = some (.inl (0, 20, .inl (fun _ => 0))) ∧ True)) := by
  refine en_mk m_X12_times rfl hl (Nat.le_of_ble_eq_true rfl) ?_
  refine x_aload_n (M := M_X12_times) dX12_times_0 rfl ?_
  refine x_getf (M := M_X12_times) (ci := 15) (C := RX12) (T := TX12) (N := 135) (ty := tyX12) cl15 dX12_times_1 o10781 37 (by decide) t_2428 (v := .ref 295) rfl ?_
  refine x_iload_n (M := M_X12_times) dX12_times_4 rfl ?_
  refine x_iald (M := M_X12_times) dX12_times_5 o10782 (vp_inD (by decide +kernel)) ?_
  refine x_top (M := M_X12_times) (y := (Int32.ofInt 0)) (by decide +kernel) ?_
  refine x_aload_n (M := M_X12_times) dX12_times_6 rfl ?_
  refine x_getf (M := M_X12_times) (ci := 15) (C := RX12) (T := TX12) (N := 135) (ty := tyX12) cl15 dX12_times_7 o10781 37 (by decide) t_2428 (v := .ref 295) rfl ?_
  refine x_iload_n (M := M_X12_times) dX12_times_10 rfl ?_
  refine x_iald (M := M_X12_times) dX12_times_11 o10782 (vp_inD (by decide +kernel)) ?_
  refine x_top (M := M_X12_times) (y := (Int32.ofInt 0)) (by decide +kernel) ?_
  refine x_iadd (M := M_X12_times) dX12_times_12 ?_
  refine x_top (M := M_X12_times) (y := (Int32.ofInt 0)) (by decide +kernel) ?_
  refine x_istore (M := M_X12_times) dX12_times_13 (Nat.le_of_ble_eq_true rfl) rfl ?_
  refine x_iconst (M := M_X12_times) dX12_times_15 ?_
  refine x_istore (M := M_X12_times) dX12_times_16 (Nat.le_of_ble_eq_true rfl) rfl ?_
  refine x_iload (M := M_X12_times) dX12_times_18 rfl ?_
  refine x_iload (M := M_X12_times) dX12_times_20 rfl ?_
  refine x_icmp_ge (M := M_X12_times) (tgt := 45) dX12_times_22 (by decide) (fun _ => ?_) (fun q => absurd q (by decide +kernel))
  refine x_iconst (M := M_X12_times) dX12_times_45 ?_
  refine x_istore (M := M_X12_times) dX12_times_46 (Nat.le_of_ble_eq_true rfl) rfl ?_
  refine x_iload (M := M_X12_times) dX12_times_48 rfl ?_
  refine x_aload_n (M := M_X12_times) dX12_times_50 rfl ?_
  refine x_getf (M := M_X12_times) (ci := 15) (C := RX12) (T := TX12) (N := 135) (ty := tyX12) cl15 dX12_times_51 o10781 37 (by decide) t_2428 (v := .ref 295) rfl ?_
  refine x_iload_n (M := M_X12_times) dX12_times_54 rfl ?_
  refine x_iald (M := M_X12_times) dX12_times_55 o10782 (vp_inD (by decide +kernel)) ?_
  refine x_top (M := M_X12_times) (y := (Int32.ofInt 0)) (by decide +kernel) ?_
  refine x_icmp_ge (M := M_X12_times) (tgt := 188) dX12_times_56 (by decide) (fun _ => ?_) (fun q => absurd q (by decide +kernel))
  refine x_aload_n (M := M_X12_times) dX12_times_188 rfl ?_
  refine x_getf (M := M_X12_times) (ci := 15) (C := RX12) (T := TX12) (N := 135) (ty := tyX12) cl15 dX12_times_189 o10781 37 (by decide) t_2428 (v := .ref 295) rfl ?_
  refine x_iload_n (M := M_X12_times) dX12_times_192 rfl ?_
  refine x_iload (M := M_X12_times) dX12_times_193 rfl ?_
  refine y_iast (M := M_X12_times) (k := 9) dX12_times_195 o10782 (vp_inD (by decide +kernel)) (by decide +kernel) (fun h10783 w10784 f10785 => ?_)
  have w10786 : ob h10783 295 = some (.inl (0, 20, .inl (fun _ => 0))) := by rw [w10784, up_z (k := 9)]
  refine x_aload_n (M := M_X12_times) dX12_times_196 rfl ?_
  have o10787 := (f10785 277 _ (by decide) o10781)
  refine x_getf (M := M_X12_times) (ci := 15) (C := RX12) (T := TX12) (N := 135) (ty := tyX12) cl15 dX12_times_197 o10787 38 (by decide) t_2429 (v := .ref 296) rfl ?_
  refine x_iload_n (M := M_X12_times) dX12_times_200 rfl ?_
  refine x_aload_n (M := M_X12_times) dX12_times_201 rfl ?_
  refine x_getf (M := M_X12_times) (ci := 15) (C := RX12) (T := TX12) (N := 135) (ty := tyX12) cl15 dX12_times_202 o10787 38 (by decide) t_2429 (v := .ref 296) rfl ?_
  refine x_iload_n (M := M_X12_times) dX12_times_205 rfl ?_
  have o10789 := (f10785 296 _ (by decide) o10788)
  refine x_iald (M := M_X12_times) dX12_times_206 o10789 (vp_inD (by decide +kernel)) ?_
  refine x_top (M := M_X12_times) (y := (Int32.ofInt 0)) (by decide +kernel) ?_
  refine x_aload_n (M := M_X12_times) dX12_times_207 rfl ?_
  refine x_getf (M := M_X12_times) (ci := 15) (C := RX12) (T := TX12) (N := 135) (ty := tyX12) cl15 dX12_times_208 o10787 38 (by decide) t_2429 (v := .ref 296) rfl ?_
  refine x_iload_n (M := M_X12_times) dX12_times_211 rfl ?_
  refine x_iald (M := M_X12_times) dX12_times_212 o10789 (vp_inD (by decide +kernel)) ?_
  refine x_top (M := M_X12_times) (y := (Int32.ofInt 0)) (by decide +kernel) ?_
  refine x_imul (M := M_X12_times) dX12_times_213 ?_
  refine x_norm (M := M_X12_times) (st' := [.int (Int32.ofInt 0), .int (Int32.ofInt 9), .ref 296]) rfl (vi_cons (by decide +kernel : ((Int32.ofInt 0) * (Int32.ofInt 0)) = (Int32.ofInt 0)) rfl) rfl rfl rfl ?_
  refine y_iast (M := M_X12_times) (k := 9) dX12_times_214 o10789 (vp_inD (by decide +kernel)) (by decide +kernel) (fun h10790 w10791 f10792 => ?_)
  have w10793 : ob h10790 296 = some (.inl (0, 20, .inl (fun _ => 0))) := by rw [w10791, up_z (k := 9)]
  refine x_aload_n (M := M_X12_times) dX12_times_215 rfl ?_
  refine x_iload_n (M := M_X12_times) dX12_times_216 rfl ?_
  have o10794 := (f10792 277 _ (by decide) o10787)
  have o10795 := (f10792 295 _ (by decide) w10786)
  refine y_callVR (M := M_X12_times) (M' := M_X12_trim) rfl rfl dX12_times_217 m_X12_trim t_3170 t_3172 s_213 (q10028 hl o10794 o10795 w10793) rfl rfl o10794 rfl (Nat.le_of_ble_eq_true rfl) (Nat.le_of_ble_eq_true rfl) (Nat.le_of_ble_eq_true rfl) (Nat.le_of_ble_eq_true rfl) (fun h10796 f10797 w10798 => ?_)
  obtain ⟨o10799, -⟩ := w10798
  have o10800 := (f10797 295 _ (by decide) o10795)
  exact x_vret (M := M_X12_times) dX12_times_220 rfl ⟨rfl, (fr_tr f10797 (by decide) (fr_tr f10792 (by decide) (fr_tr f10785 (by decide) fr_rf))), ⟨o10800, o10799, trivial⟩⟩ (Nat.le_of_ble_eq_true rfl) (Nat.le_of_ble_eq_true rfl)
set_option maxRecDepth 10000 in
theorem q10828 {l : Launch} {E : EE} (hl : l.stackTraces = false) {h : HP} {dg : Int32} (o10808 : ob h 277 = some (.inr (15, ((RB dg).set 0 (.int (Int32.ofInt 0)))))) (o10809 : ob h 295 = some (.inl (0, 20, .inl (fun _ => 0)))) (o10815 : ob h 296 = some (.inl (0, 20, .inl (fun _ => 0)))) : en_C l E M_X12_times 1 0 0 [.ref 277, .int (Int32.ofInt 10), .int (Int32.ofInt 2), .int (Int32.ofInt 4)] h (pF none [295, 296] h (fun h' => ob h' 295 = some (.inl (0, 20, .inl (fun _ => 0))) ∧ ob h' 296 = some (.inl (0, 20, .inl (fun _ => 0))) ∧ True)) := by
  refine en_mk m_X12_times rfl hl (Nat.le_of_ble_eq_true rfl) ?_
  refine x_aload_n (M := M_X12_times) dX12_times_0 rfl ?_
  refine x_getf (M := M_X12_times) (ci := 15) (C := RX12) (T := TX12) (N := 135) (ty := tyX12) cl15 dX12_times_1 o10808 37 (by decide) t_2428 (v := .ref 295) rfl ?_
  refine x_iload_n (M := M_X12_times) dX12_times_4 rfl ?_
  refine x_iald (M := M_X12_times) dX12_times_5 o10809 (vp_inD (by decide +kernel)) ?_
  refine x_top (M := M_X12_times) (y := (Int32.ofInt 0)) (by decide +kernel) ?_
  refine x_aload_n (M := M_X12_times) dX12_times_6 rfl ?_
  refine x_getf (M := M_X12_times) (ci := 15) (C := RX12) (T := TX12) (N := 135) (ty := tyX12) cl15 dX12_times_7 o10808 37 (by decide) t_2428 (v := .ref 295) rfl ?_
  refine x_iload_n (M := M_X12_times) dX12_times_10 rfl ?_
  refine x_iald (M := M_X12_times) dX12_times_11 o10809 (vp_inD (by decide +kernel)) ?_
  refine x_top (M := M_X12_times) (y := (Int32.ofInt 0)) (by decide +kernel) ?_
  refine x_iadd (M := M_X12_times) dX12_times_12 ?_
  refine x_top (M := M_X12_times) (y := (Int32.ofInt 0)) (by decide +kernel) ?_
  refine x_istore (M := M_X12_times) dX12_times_13 (Nat.le_of_ble_eq_true rfl) rfl ?_
  refine x_iconst (M := M_X12_times) dX12_times_15 ?_
  refine x_istore (M := M_X12_times) dX12_times_16 (Nat.le_of_ble_eq_true rfl) rfl ?_
  refine x_iload (M := M_X12_times) dX12_times_18 rfl ?_
  refine x_iload (M := M_X12_times) dX12_times_20 rfl ?_
  refine x_icmp_ge (M := M_X12_times) (tgt := 45) dX12_times_22 (by decide) (fun _ => ?_) (fun q => absurd q (by decide +kernel))
  refine x_iconst (M := M_X12_times) dX12_times_45 ?_
  refine x_istore (M := M_X12_times) dX12_times_46 (Nat.le_of_ble_eq_true rfl) rfl ?_
  refine x_iload (M := M_X12_times) dX12_times_48 rfl ?_
  refine x_aload_n (M := M_X12_times) dX12_times_50 rfl ?_
  refine x_getf (M := M_X12_times) (ci := 15) (C := RX12) (T := TX12) (N := 135) (ty := tyX12) cl15 dX12_times_51 o10808 37 (by decide) t_2428 (v := .ref 295) rfl ?_
  refine x_iload_n (M := M_X12_times) dX12_times_54 rfl ?_
  refine x_iald (M := M_X12_times) dX12_times_55 o10809 (vp_inD (by decide +kernel)) ?_
  refine x_top (M := M_X12_times) (y := (Int32.ofInt 0)) (by decide +kernel) ?_
  refine x_icmp_ge (M := M_X12_times) (tgt := 188) dX12_times_56 (by decide) (fun _ => ?_) (fun q => absurd q (by decide +kernel))
  refine x_aload_n (M := M_X12_times) dX12_times_188 rfl ?_
  refine x_getf (M := M_X12_times) (ci := 15) (C := RX12) (T := TX12) (N := 135) (ty := tyX12) cl15 dX12_times_189 o10808 37 (by decide) t_2428 (v := .ref 295) rfl ?_
  refine x_iload_n (M := M_X12_times) dX12_times_192 rfl ?_
  refine x_iload (M := M_X12_times) dX12_times_193 rfl ?_
  refine y_iast (M := M_X12_times) (k := 10) dX12_times_195 o10809 (vp_inD (by decide +kernel)) (by decide +kernel) (fun h10810 w10811 f10812 => ?_)
  have w10813 : ob h10810 295 = some (.inl (0, 20, .inl (fun _ => 0))) := by rw [w10811, up_z (k := 10)]
  refine x_aload_n (M := M_X12_times) dX12_times_196 rfl ?_
  have o10814 := (f10812 277 _ (by decide) o10808)
  refine x_getf (M := M_X12_times) (ci := 15) (C := RX12) (T := TX12) (N := 135) (ty := tyX12) cl15 dX12_times_197 o10814 38 (by decide) t_2429 (v := .ref 296) rfl ?_
  refine x_iload_n (M := M_X12_times) dX12_times_200 rfl ?_
  refine x_aload_n (M := M_X12_times) dX12_times_201 rfl ?_
  refine x_getf (M := M_X12_times) (ci := 15) (C := RX12) (T := TX12) (N := 135) (ty := tyX12) cl15 dX12_times_202 o10814 38 (by decide) t_2429 (v := .ref 296) rfl ?_
  refine x_iload_n (M := M_X12_times) dX12_times_205 rfl ?_
  have o10816 := (f10812 296 _ (by decide) o10815)
  refine x_iald (M := M_X12_times) dX12_times_206 o10816 (vp_inD (by decide +kernel)) ?_
  refine x_top (M := M_X12_times) (y := (Int32.ofInt 0)) (by decide +kernel) ?_
  refine x_aload_n (M := M_X12_times) dX12_times_207 rfl ?_
  refine x_getf (M := M_X12_times) (ci := 15) (C := RX12) (T := TX12) (N := 135) (ty := tyX12) cl15 dX12_times_208 o10814 38 (by decide) t_2429 (v := .ref 296) rfl ?_
  refine x_iload_n (M := M_X12_times) dX12_times_211 rfl ?_
  refine x_iald (M := M_X12_times) dX12_times_212 o10816 (vp_inD (by decide +kernel)) ?_
  refine x_top (M := M_X12_times) (y := (Int32.ofInt 0)) (by decide +kernel) ?_
  refine x_imul (M := M_X12_times) dX12_times_213 ?_
  refine x_norm (M := M_X12_times) (st' := [.int (Int32.ofInt 0), .int (Int32.ofInt 10), .ref 296]) rfl (vi_cons (by decide +kernel : ((Int32.ofInt 0) * (Int32.ofInt 0)) = (Int32.ofInt 0)) rfl) rfl rfl rfl ?_
  refine y_iast (M := M_X12_times) (k := 10) dX12_times_214 o10816 (vp_inD (by decide +kernel)) (by decide +kernel) (fun h10817 w10818 f10819 => ?_)
  have w10820 : ob h10817 296 = some (.inl (0, 20, .inl (fun _ => 0))) := by rw [w10818, up_z (k := 10)]
  refine x_aload_n (M := M_X12_times) dX12_times_215 rfl ?_
  refine x_iload_n (M := M_X12_times) dX12_times_216 rfl ?_
  have o10821 := (f10819 277 _ (by decide) o10814)
  have o10822 := (f10819 295 _ (by decide) w10813)
  refine y_callVR (M := M_X12_times) (M' := M_X12_trim) rfl rfl dX12_times_217 m_X12_trim t_3170 t_3172 s_213 (q10065 hl o10821 o10822 w10820) rfl rfl o10821 rfl (Nat.le_of_ble_eq_true rfl) (Nat.le_of_ble_eq_true rfl) (Nat.le_of_ble_eq_true rfl) (Nat.le_of_ble_eq_true rfl) (fun h10823 f10824 w10825 => ?_)
  obtain ⟨o10826, -⟩ := w10825
  have o10827 := (f10824 295 _ (by decide) o10822)
  exact x_vret (M := M_X12_times) dX12_times_220 rfl ⟨rfl, (fr_tr f10824 (by decide) (fr_tr f10819 (by decide) (fr_tr f10812 (by decide) fr_rf))), ⟨o10827, o10826, trivial⟩⟩ (Nat.le_of_ble_eq_true rfl) (Nat.le_of_ble_eq_true rfl)
set_option maxRecDepth 10000 in
theorem q10863 {l : Launch} {E : EE} (hl : l.stackTraces = false) {h : HP} {dg : Int32} (o10843 : ob h 277 = some (.inr (15, ((RB dg).set 0 (.int (Int32.ofInt 0)))))) (o10844 : ob h 295 = some (.inl (0, 20, .inl (fun _ => 0)))) (o10850 : ob h 296 = some (.inl (0, 20, .inl (fun _ => 0)))) : en_C l E M_X12_times 1 0 0 [.ref 277, .int (Int32.ofInt 12), .int (Int32.ofInt 6), .int (Int32.ofInt 11)] h (pF none [295, 296] h (fun h' => ob h' 295 = some (.inl (0, 20, .inl (fun _ => 0))) ∧ ob h' 296 = some (.inl (0, 20, .inl (fun _ => 0))) ∧ True)) := by
  refine en_mk m_X12_times rfl hl (Nat.le_of_ble_eq_true rfl) ?_
  refine x_aload_n (M := M_X12_times) dX12_times_0 rfl ?_
  refine x_getf (M := M_X12_times) (ci := 15) (C := RX12) (T := TX12) (N := 135) (ty := tyX12) cl15 dX12_times_1 o10843 37 (by decide) t_2428 (v := .ref 295) rfl ?_
  refine x_iload_n (M := M_X12_times) dX12_times_4 rfl ?_
  refine x_iald (M := M_X12_times) dX12_times_5 o10844 (vp_inD (by decide +kernel)) ?_
  refine x_top (M := M_X12_times) (y := (Int32.ofInt 0)) (by decide +kernel) ?_
  refine x_aload_n (M := M_X12_times) dX12_times_6 rfl ?_
  refine x_getf (M := M_X12_times) (ci := 15) (C := RX12) (T := TX12) (N := 135) (ty := tyX12) cl15 dX12_times_7 o10843 37 (by decide) t_2428 (v := .ref 295) rfl ?_
  refine x_iload_n (M := M_X12_times) dX12_times_10 rfl ?_
  refine x_iald (M := M_X12_times) dX12_times_11 o10844 (vp_inD (by decide +kernel)) ?_
  refine x_top (M := M_X12_times) (y := (Int32.ofInt 0)) (by decide +kernel) ?_
  refine x_iadd (M := M_X12_times) dX12_times_12 ?_
  refine x_top (M := M_X12_times) (y := (Int32.ofInt 0)) (by decide +kernel) ?_
  refine x_istore (M := M_X12_times) dX12_times_13 (Nat.le_of_ble_eq_true rfl) rfl ?_
  refine x_iconst (M := M_X12_times) dX12_times_15 ?_
  refine x_istore (M := M_X12_times) dX12_times_16 (Nat.le_of_ble_eq_true rfl) rfl ?_
  refine x_iload (M := M_X12_times) dX12_times_18 rfl ?_
  refine x_iload (M := M_X12_times) dX12_times_20 rfl ?_
  refine x_icmp_ge (M := M_X12_times) (tgt := 45) dX12_times_22 (by decide) (fun _ => ?_) (fun q => absurd q (by decide +kernel))
  refine x_iconst (M := M_X12_times) dX12_times_45 ?_
  refine x_istore (M := M_X12_times) dX12_times_46 (Nat.le_of_ble_eq_true rfl) rfl ?_
  refine x_iload (M := M_X12_times) dX12_times_48 rfl ?_
  refine x_aload_n (M := M_X12_times) dX12_times_50 rfl ?_
  refine x_getf (M := M_X12_times) (ci := 15) (C := RX12) (T := TX12) (N := 135) (ty := tyX12) cl15 dX12_times_51 o10843 37 (by decide) t_2428 (v := .ref 295) rfl ?_
  refine x_iload_n (M := M_X12_times) dX12_times_54 rfl ?_
  refine x_iald (M := M_X12_times) dX12_times_55 o10844 (vp_inD (by decide +kernel)) ?_
  refine x_top (M := M_X12_times) (y := (Int32.ofInt 0)) (by decide +kernel) ?_
  refine x_icmp_ge (M := M_X12_times) (tgt := 188) dX12_times_56 (by decide) (fun _ => ?_) (fun q => absurd q (by decide +kernel))
  refine x_aload_n (M := M_X12_times) dX12_times_188 rfl ?_
  refine x_getf (M := M_X12_times) (ci := 15) (C := RX12) (T := TX12) (N := 135) (ty := tyX12) cl15 dX12_times_189 o10843 37 (by decide) t_2428 (v := .ref 295) rfl ?_
  refine x_iload_n (M := M_X12_times) dX12_times_192 rfl ?_
  refine x_iload (M := M_X12_times) dX12_times_193 rfl ?_
  refine y_iast (M := M_X12_times) (k := 12) dX12_times_195 o10844 (vp_inD (by decide +kernel)) (by decide +kernel) (fun h10845 w10846 f10847 => ?_)
  have w10848 : ob h10845 295 = some (.inl (0, 20, .inl (fun _ => 0))) := by rw [w10846, up_z (k := 12)]
  refine x_aload_n (M := M_X12_times) dX12_times_196 rfl ?_
  have o10849 := (f10847 277 _ (by decide) o10843)
  refine x_getf (M := M_X12_times) (ci := 15) (C := RX12) (T := TX12) (N := 135) (ty := tyX12) cl15 dX12_times_197 o10849 38 (by decide) t_2429 (v := .ref 296) rfl ?_
  refine x_iload_n (M := M_X12_times) dX12_times_200 rfl ?_
  refine x_aload_n (M := M_X12_times) dX12_times_201 rfl ?_
  refine x_getf (M := M_X12_times) (ci := 15) (C := RX12) (T := TX12) (N := 135) (ty := tyX12) cl15 dX12_times_202 o10849 38 (by decide) t_2429 (v := .ref 296) rfl ?_
  refine x_iload_n (M := M_X12_times) dX12_times_205 rfl ?_
  have o10851 := (f10847 296 _ (by decide) o10850)
  refine x_iald (M := M_X12_times) dX12_times_206 o10851 (vp_inD (by decide +kernel)) ?_
  refine x_top (M := M_X12_times) (y := (Int32.ofInt 0)) (by decide +kernel) ?_
  refine x_aload_n (M := M_X12_times) dX12_times_207 rfl ?_
  refine x_getf (M := M_X12_times) (ci := 15) (C := RX12) (T := TX12) (N := 135) (ty := tyX12) cl15 dX12_times_208 o10849 38 (by decide) t_2429 (v := .ref 296) rfl ?_
  refine x_iload_n (M := M_X12_times) dX12_times_211 rfl ?_
  refine x_iald (M := M_X12_times) dX12_times_212 o10851 (vp_inD (by decide +kernel)) ?_
  refine x_top (M := M_X12_times) (y := (Int32.ofInt 0)) (by decide +kernel) ?_
  refine x_imul (M := M_X12_times) dX12_times_213 ?_
  refine x_norm (M := M_X12_times) (st' := [.int (Int32.ofInt 0), .int (Int32.ofInt 12), .ref 296]) rfl (vi_cons (by decide +kernel : ((Int32.ofInt 0) * (Int32.ofInt 0)) = (Int32.ofInt 0)) rfl) rfl rfl rfl ?_
  refine y_iast (M := M_X12_times) (k := 12) dX12_times_214 o10851 (vp_inD (by decide +kernel)) (by decide +kernel) (fun h10852 w10853 f10854 => ?_)
  have w10855 : ob h10852 296 = some (.inl (0, 20, .inl (fun _ => 0))) := by rw [w10853, up_z (k := 12)]
  refine x_aload_n (M := M_X12_times) dX12_times_215 rfl ?_
  refine x_iload_n (M := M_X12_times) dX12_times_216 rfl ?_
  have o10856 := (f10854 277 _ (by decide) o10849)
  have o10857 := (f10854 295 _ (by decide) w10848)
  refine y_callVR (M := M_X12_times) (M' := M_X12_trim) rfl rfl dX12_times_217 m_X12_trim t_3170 t_3172 s_213 (q10600 hl o10856 o10857 w10855) rfl rfl o10856 rfl (Nat.le_of_ble_eq_true rfl) (Nat.le_of_ble_eq_true rfl) (Nat.le_of_ble_eq_true rfl) (Nat.le_of_ble_eq_true rfl) (fun h10858 f10859 w10860 => ?_)
  obtain ⟨o10861, -⟩ := w10860
  have o10862 := (f10859 295 _ (by decide) o10857)
  exact x_vret (M := M_X12_times) dX12_times_220 rfl ⟨rfl, (fr_tr f10859 (by decide) (fr_tr f10854 (by decide) (fr_tr f10847 (by decide) fr_rf))), ⟨o10862, o10861, trivial⟩⟩ (Nat.le_of_ble_eq_true rfl) (Nat.le_of_ble_eq_true rfl)
set_option maxRecDepth 10000 in
theorem q10879 {l : Launch} {E : EE} (hl : l.stackTraces = false) {h : HP} {dg : Int32} (o10453 : ob h 277 = some (.inr (15, ((RB dg).set 0 (.int (Int32.ofInt 0)))))) (o10454 : ob h 294 = some (.inl (1, 6000, .inr (.inl (fun _ => 0))))) (o10455 : ob h 295 = some (.inl (0, 20, .inl (fun _ => 0)))) (o10456 : ob h 296 = some (.inl (0, 20, .inl (fun _ => 0)))) : en_C l E M_X12_determinant 3 0 0 [.ref 277] h (pF (some (.int (Int32.ofInt 0))) [294, 295, 296] h (fun h' => ob h' 294 = some (.inl (1, 6000, .inr (.inl (fun _ => 0)))) ∧ ob h' 295 = some (.inl (0, 20, .inl (fun _ => 0))) ∧ ob h' 296 = some (.inl (0, 20, .inl (fun _ => 0))) ∧ True)) := by
  refine en_mk m_X12_determinant rfl hl (Nat.le_of_ble_eq_true rfl) ?_
  refine x_aload_n (M := M_X12_determinant) dX12_determinant_0 rfl ?_
  refine x_bipush (M := M_X12_determinant) dX12_determinant_1 ?_
  refine x_lconst (M := M_X12_determinant) dX12_determinant_3 ?_
  refine x_norm (M := M_X12_determinant) (st' := [.long (Int64.ofInt 0), .int (Int32.ofInt 15), .ref 277]) rfl (vj_cons (by decide +kernel : (Int64.ofNat ((0 : Fin 2) : Nat)) = (Int64.ofInt 0)) (vi_cons (by decide +kernel : ((Int8.ofInt 15).toInt32) = (Int32.ofInt 15)) rfl)) rfl rfl rfl ?_
  refine y_callVR (M := M_X12_determinant) (M' := M_X12_set) rfl rfl dX12_determinant_4 m_X12_set t_3210 t_3212 s_222 (q10452 hl o10453 o10454 o10455 o10456) rfl rfl o10453 rfl (Nat.le_of_ble_eq_true rfl) (Nat.le_of_ble_eq_true rfl) (Nat.le_of_ble_eq_true rfl) (Nat.le_of_ble_eq_true rfl) (fun h10457 f10458 w10459 => ?_)
  obtain ⟨o10460, o10461, o10462, -⟩ := w10459
  refine x_iconst (M := M_X12_determinant) dX12_determinant_7 ?_
  refine x_istore_n (M := M_X12_determinant) dX12_determinant_8 (Nat.le_of_ble_eq_true rfl) rfl ?_
  refine x_iload_n (M := M_X12_determinant) dX12_determinant_9 rfl ?_
  refine x_iconst (M := M_X12_determinant) dX12_determinant_10 ?_
  refine x_icmp_ge (M := M_X12_determinant) (tgt := 93) dX12_determinant_11 (by decide) (fun q => absurd q (by decide +kernel)) (fun _ => ?_)
  refine x_iconst (M := M_X12_determinant) dX12_determinant_14 ?_
  refine x_iload_n (M := M_X12_determinant) dX12_determinant_15 rfl ?_
  refine x_iconst (M := M_X12_determinant) dX12_determinant_16 ?_
  refine x_iadd (M := M_X12_determinant) dX12_determinant_17 ?_
  refine x_iconst (M := M_X12_determinant) dX12_determinant_18 ?_
  refine x_irem (M := M_X12_determinant) dX12_determinant_19 (by decide +kernel) ?_
  refine x_imul (M := M_X12_determinant) dX12_determinant_20 ?_
  refine x_top (M := M_X12_determinant) (y := (Int32.ofInt 3)) (by decide +kernel) ?_
  refine x_istore_n (M := M_X12_determinant) dX12_determinant_21 (Nat.le_of_ble_eq_true rfl) rfl ?_
  refine x_iconst (M := M_X12_determinant) dX12_determinant_22 ?_
  refine x_iload_n (M := M_X12_determinant) dX12_determinant_23 rfl ?_
  refine x_iconst (M := M_X12_determinant) dX12_determinant_24 ?_
  refine x_iadd (M := M_X12_determinant) dX12_determinant_25 ?_
  refine x_iconst (M := M_X12_determinant) dX12_determinant_26 ?_
  refine x_irem (M := M_X12_determinant) dX12_determinant_27 (by decide +kernel) ?_
  refine x_imul (M := M_X12_determinant) dX12_determinant_28 ?_
  refine x_top (M := M_X12_determinant) (y := (Int32.ofInt 6)) (by decide +kernel) ?_
  refine x_istore_n (M := M_X12_determinant) dX12_determinant_29 (Nat.le_of_ble_eq_true rfl) rfl ?_
  refine x_aload_n (M := M_X12_determinant) dX12_determinant_30 rfl ?_
  refine x_bipush (M := M_X12_determinant) dX12_determinant_31 ?_
  refine x_iload_n (M := M_X12_determinant) dX12_determinant_33 rfl ?_
  refine x_iconst (M := M_X12_determinant) dX12_determinant_34 ?_
  refine x_iadd (M := M_X12_determinant) dX12_determinant_35 ?_
  refine x_iload_n (M := M_X12_determinant) dX12_determinant_36 rfl ?_
  refine x_iconst (M := M_X12_determinant) dX12_determinant_37 ?_
  refine x_iadd (M := M_X12_determinant) dX12_determinant_38 ?_
  refine x_norm (M := M_X12_determinant) (st' := [.int (Int32.ofInt 8), .int (Int32.ofInt 4), .int (Int32.ofInt 9), .ref 277]) rfl (vi_cons (by decide +kernel : ((Int32.ofInt 6) + (Int32.ofInt 2)) = (Int32.ofInt 8)) (vi_cons (by decide +kernel : ((Int32.ofInt 3) + (Int32.ofInt 1)) = (Int32.ofInt 4)) (vi_cons (by decide +kernel : ((Int8.ofInt 9).toInt32) = (Int32.ofInt 9)) rfl))) rfl rfl rfl ?_
  have o10484 := (f10458 277 _ (by decide) o10453)
  refine y_callVR (M := M_X12_determinant) (M' := M_X12_times) rfl rfl dX12_determinant_39 m_X12_times t_3194 t_3196 s_219 (q10483 hl o10484 o10461 o10462) rfl rfl o10484 rfl (Nat.le_of_ble_eq_true rfl) (Nat.le_of_ble_eq_true rfl) (Nat.le_of_ble_eq_true rfl) (Nat.le_of_ble_eq_true rfl) (fun h10485 f10486 w10487 => ?_)
  obtain ⟨o10488, o10489, -⟩ := w10487
  refine x_aload_n (M := M_X12_determinant) dX12_determinant_42 rfl ?_
  refine x_bipush (M := M_X12_determinant) dX12_determinant_43 ?_
  refine x_iload_n (M := M_X12_determinant) dX12_determinant_45 rfl ?_
  refine x_iconst (M := M_X12_determinant) dX12_determinant_46 ?_
  refine x_iadd (M := M_X12_determinant) dX12_determinant_47 ?_
  refine x_iload_n (M := M_X12_determinant) dX12_determinant_48 rfl ?_
  refine x_iconst (M := M_X12_determinant) dX12_determinant_49 ?_
  refine x_iadd (M := M_X12_determinant) dX12_determinant_50 ?_
  refine x_norm (M := M_X12_determinant) (st' := [.int (Int32.ofInt 7), .int (Int32.ofInt 5), .int (Int32.ofInt 10), .ref 277]) rfl (vi_cons (by decide +kernel : ((Int32.ofInt 6) + (Int32.ofInt 1)) = (Int32.ofInt 7)) (vi_cons (by decide +kernel : ((Int32.ofInt 3) + (Int32.ofInt 2)) = (Int32.ofInt 5)) (vi_cons (by decide +kernel : ((Int8.ofInt 10).toInt32) = (Int32.ofInt 10)) rfl))) rfl rfl rfl ?_
  have o10511 := (f10486 277 _ (by decide) o10484)
  refine y_callVR (M := M_X12_determinant) (M' := M_X12_times) rfl rfl dX12_determinant_51 m_X12_times t_3194 t_3196 s_219 (q10510 hl o10511 o10488 o10489) rfl rfl o10511 rfl (Nat.le_of_ble_eq_true rfl) (Nat.le_of_ble_eq_true rfl) (Nat.le_of_ble_eq_true rfl) (Nat.le_of_ble_eq_true rfl) (fun h10512 f10513 w10514 => ?_)
  obtain ⟨o10515, o10516, -⟩ := w10514
  refine x_aload_n (M := M_X12_determinant) dX12_determinant_54 rfl ?_
  refine x_bipush (M := M_X12_determinant) dX12_determinant_55 ?_
  refine x_bipush (M := M_X12_determinant) dX12_determinant_57 ?_
  refine x_bipush (M := M_X12_determinant) dX12_determinant_59 ?_
  refine x_iconst (M := M_X12_determinant) dX12_determinant_61 ?_
  refine x_norm (M := M_X12_determinant) (st' := [.int (Int32.ofInt 1), .int (Int32.ofInt 10), .int (Int32.ofInt 9), .int (Int32.ofInt 11), .ref 277]) rfl (v_cons (vi_cons (by decide +kernel : ((Int8.ofInt 10).toInt32) = (Int32.ofInt 10)) (vi_cons (by decide +kernel : ((Int8.ofInt 9).toInt32) = (Int32.ofInt 9)) (vi_cons (by decide +kernel : ((Int8.ofInt 11).toInt32) = (Int32.ofInt 11)) rfl)))) rfl rfl rfl ?_
  have o10572 := (f10513 277 _ (by decide) o10511)
  have o10573 := (f10513 294 _ (by decide) (f10486 294 _ (by decide) o10460))
  refine y_callVR (M := M_X12_determinant) (M' := M_X12_add) rfl rfl dX12_determinant_62 m_X12_add t_3174 t_3176 s_214 (q10571 hl o10572 o10516 o10515 o10573) rfl rfl o10572 rfl (Nat.le_of_ble_eq_true rfl) (Nat.le_of_ble_eq_true rfl) (Nat.le_of_ble_eq_true rfl) (Nat.le_of_ble_eq_true rfl) (fun h10574 f10575 w10576 => ?_)
  obtain ⟨o10577, o10578, o10579, -⟩ := w10576
  refine x_aload_n (M := M_X12_determinant) dX12_determinant_65 rfl ?_
  refine x_bipush (M := M_X12_determinant) dX12_determinant_66 ?_
  refine x_iconst (M := M_X12_determinant) dX12_determinant_68 ?_
  refine x_iload_n (M := M_X12_determinant) dX12_determinant_69 rfl ?_
  refine x_imul (M := M_X12_determinant) dX12_determinant_70 ?_
  refine x_bipush (M := M_X12_determinant) dX12_determinant_71 ?_
  refine x_norm (M := M_X12_determinant) (st' := [.int (Int32.ofInt 11), .int (Int32.ofInt 0), .int (Int32.ofInt 12), .ref 277]) rfl (vi_cons (by decide +kernel : ((Int8.ofInt 11).toInt32) = (Int32.ofInt 11)) (vi_cons (by decide +kernel : ((Int32.ofInt 3) * (Int32.ofInt 0)) = (Int32.ofInt 0)) (vi_cons (by decide +kernel : ((Int8.ofInt 12).toInt32) = (Int32.ofInt 12)) rfl))) rfl rfl rfl ?_
  have o10609 := (f10575 277 _ (by decide) o10572)
  refine y_callVR (M := M_X12_determinant) (M' := M_X12_times) rfl rfl dX12_determinant_73 m_X12_times t_3194 t_3196 s_219 (q10608 hl o10609 o10578 o10579) rfl rfl o10609 rfl (Nat.le_of_ble_eq_true rfl) (Nat.le_of_ble_eq_true rfl) (Nat.le_of_ble_eq_true rfl) (Nat.le_of_ble_eq_true rfl) (fun h10610 f10611 w10612 => ?_)
  obtain ⟨o10613, o10614, -⟩ := w10612
  refine x_aload_n (M := M_X12_determinant) dX12_determinant_76 rfl ?_
  refine x_bipush (M := M_X12_determinant) dX12_determinant_77 ?_
  refine x_bipush (M := M_X12_determinant) dX12_determinant_79 ?_
  refine x_bipush (M := M_X12_determinant) dX12_determinant_81 ?_
  refine x_iconst (M := M_X12_determinant) dX12_determinant_83 ?_
  refine x_norm (M := M_X12_determinant) (st' := [.int (Int32.ofInt 0), .int (Int32.ofInt 12), .int (Int32.ofInt 15), .int (Int32.ofInt 15), .ref 277]) rfl (v_cons (vi_cons (by decide +kernel : ((Int8.ofInt 12).toInt32) = (Int32.ofInt 12)) (vi_cons (by decide +kernel : ((Int8.ofInt 15).toInt32) = (Int32.ofInt 15)) (vi_cons (by decide +kernel : ((Int8.ofInt 15).toInt32) = (Int32.ofInt 15)) rfl)))) rfl rfl rfl ?_
  have o10676 := (f10611 277 _ (by decide) o10609)
  have o10677 := (f10611 294 _ (by decide) o10577)
  refine y_callVR (M := M_X12_determinant) (M' := M_X12_add) rfl rfl dX12_determinant_84 m_X12_add t_3174 t_3176 s_214 (q10675 hl o10676 o10614 o10613 o10677) rfl rfl o10676 rfl (Nat.le_of_ble_eq_true rfl) (Nat.le_of_ble_eq_true rfl) (Nat.le_of_ble_eq_true rfl) (Nat.le_of_ble_eq_true rfl) (fun h10678 f10679 w10680 => ?_)
  obtain ⟨o10681, o10682, o10683, -⟩ := w10680
  refine x_iinc (M := M_X12_determinant) dX12_determinant_87 rfl (Nat.le_of_ble_eq_true rfl) rfl ?_
  refine x_lvs (M := M_X12_determinant) (lv' := [some (.ref 277), some (.int (Int32.ofInt 1)), some (.int (Int32.ofInt 3)), some (.int (Int32.ofInt 6))]) (by rw [(by decide +kernel : (Int32.ofInt 0) + Int32.ofInt 1 = (Int32.ofInt 1))] <;> rfl) ?_
  refine x_goto (M := M_X12_determinant) (tgt := 9) dX12_determinant_90 (by decide) ?_
  refine x_iload_n (M := M_X12_determinant) dX12_determinant_9 rfl ?_
  refine x_iconst (M := M_X12_determinant) dX12_determinant_10 ?_
  refine x_icmp_ge (M := M_X12_determinant) (tgt := 93) dX12_determinant_11 (by decide) (fun q => absurd q (by decide +kernel)) (fun _ => ?_)
  refine x_iconst (M := M_X12_determinant) dX12_determinant_14 ?_
  refine x_iload_n (M := M_X12_determinant) dX12_determinant_15 rfl ?_
  refine x_iconst (M := M_X12_determinant) dX12_determinant_16 ?_
  refine x_iadd (M := M_X12_determinant) dX12_determinant_17 ?_
  refine x_iconst (M := M_X12_determinant) dX12_determinant_18 ?_
  refine x_irem (M := M_X12_determinant) dX12_determinant_19 (by decide +kernel) ?_
  refine x_imul (M := M_X12_determinant) dX12_determinant_20 ?_
  refine x_top (M := M_X12_determinant) (y := (Int32.ofInt 6)) (by decide +kernel) ?_
  refine x_istore_n (M := M_X12_determinant) dX12_determinant_21 (Nat.le_of_ble_eq_true rfl) rfl ?_
  refine x_iconst (M := M_X12_determinant) dX12_determinant_22 ?_
  refine x_iload_n (M := M_X12_determinant) dX12_determinant_23 rfl ?_
  refine x_iconst (M := M_X12_determinant) dX12_determinant_24 ?_
  refine x_iadd (M := M_X12_determinant) dX12_determinant_25 ?_
  refine x_iconst (M := M_X12_determinant) dX12_determinant_26 ?_
  refine x_irem (M := M_X12_determinant) dX12_determinant_27 (by decide +kernel) ?_
  refine x_imul (M := M_X12_determinant) dX12_determinant_28 ?_
  refine x_top (M := M_X12_determinant) (y := (Int32.ofInt 0)) (by decide +kernel) ?_
  refine x_istore_n (M := M_X12_determinant) dX12_determinant_29 (Nat.le_of_ble_eq_true rfl) rfl ?_
  refine x_lvs (M := M_X12_determinant) (lv' := [some (.ref 277), some (.int (Int32.ofInt 1)), some (.int (Int32.ofInt 6)), some (.int (Int32.ofInt 0))]) rfl ?_
  refine x_aload_n (M := M_X12_determinant) dX12_determinant_30 rfl ?_
  refine x_bipush (M := M_X12_determinant) dX12_determinant_31 ?_
  refine x_iload_n (M := M_X12_determinant) dX12_determinant_33 rfl ?_
  refine x_iconst (M := M_X12_determinant) dX12_determinant_34 ?_
  refine x_iadd (M := M_X12_determinant) dX12_determinant_35 ?_
  refine x_iload_n (M := M_X12_determinant) dX12_determinant_36 rfl ?_
  refine x_iconst (M := M_X12_determinant) dX12_determinant_37 ?_
  refine x_iadd (M := M_X12_determinant) dX12_determinant_38 ?_
  refine x_norm (M := M_X12_determinant) (st' := [.int (Int32.ofInt 2), .int (Int32.ofInt 7), .int (Int32.ofInt 9), .ref 277]) rfl (vi_cons (by decide +kernel : ((Int32.ofInt 0) + (Int32.ofInt 2)) = (Int32.ofInt 2)) (vi_cons (by decide +kernel : ((Int32.ofInt 6) + (Int32.ofInt 1)) = (Int32.ofInt 7)) (vi_cons (by decide +kernel : ((Int8.ofInt 9).toInt32) = (Int32.ofInt 9)) rfl))) rfl rfl rfl ?_
  have o10705 := (f10679 277 _ (by decide) o10676)
  refine y_callVR (M := M_X12_determinant) (M' := M_X12_times) rfl rfl dX12_determinant_39 m_X12_times t_3194 t_3196 s_219 (q10704 hl o10705 o10682 o10683) rfl rfl o10705 rfl (Nat.le_of_ble_eq_true rfl) (Nat.le_of_ble_eq_true rfl) (Nat.le_of_ble_eq_true rfl) (Nat.le_of_ble_eq_true rfl) (fun h10706 f10707 w10708 => ?_)
  obtain ⟨o10709, o10710, -⟩ := w10708
  refine x_aload_n (M := M_X12_determinant) dX12_determinant_42 rfl ?_
  refine x_bipush (M := M_X12_determinant) dX12_determinant_43 ?_
  refine x_iload_n (M := M_X12_determinant) dX12_determinant_45 rfl ?_
  refine x_iconst (M := M_X12_determinant) dX12_determinant_46 ?_
  refine x_iadd (M := M_X12_determinant) dX12_determinant_47 ?_
  refine x_iload_n (M := M_X12_determinant) dX12_determinant_48 rfl ?_
  refine x_iconst (M := M_X12_determinant) dX12_determinant_49 ?_
  refine x_iadd (M := M_X12_determinant) dX12_determinant_50 ?_
  refine x_norm (M := M_X12_determinant) (st' := [.int (Int32.ofInt 1), .int (Int32.ofInt 8), .int (Int32.ofInt 10), .ref 277]) rfl (vi_cons (by decide +kernel : ((Int32.ofInt 0) + (Int32.ofInt 1)) = (Int32.ofInt 1)) (vi_cons (by decide +kernel : ((Int32.ofInt 6) + (Int32.ofInt 2)) = (Int32.ofInt 8)) (vi_cons (by decide +kernel : ((Int8.ofInt 10).toInt32) = (Int32.ofInt 10)) rfl))) rfl rfl rfl ?_
  have o10732 := (f10707 277 _ (by decide) o10705)
  refine y_callVR (M := M_X12_determinant) (M' := M_X12_times) rfl rfl dX12_determinant_51 m_X12_times t_3194 t_3196 s_219 (q10731 hl o10732 o10709 o10710) rfl rfl o10732 rfl (Nat.le_of_ble_eq_true rfl) (Nat.le_of_ble_eq_true rfl) (Nat.le_of_ble_eq_true rfl) (Nat.le_of_ble_eq_true rfl) (fun h10733 f10734 w10735 => ?_)
  obtain ⟨o10736, o10737, -⟩ := w10735
  refine x_aload_n (M := M_X12_determinant) dX12_determinant_54 rfl ?_
  refine x_bipush (M := M_X12_determinant) dX12_determinant_55 ?_
  refine x_bipush (M := M_X12_determinant) dX12_determinant_57 ?_
  refine x_bipush (M := M_X12_determinant) dX12_determinant_59 ?_
  refine x_iconst (M := M_X12_determinant) dX12_determinant_61 ?_
  refine x_norm (M := M_X12_determinant) (st' := [.int (Int32.ofInt 1), .int (Int32.ofInt 10), .int (Int32.ofInt 9), .int (Int32.ofInt 11), .ref 277]) rfl (v_cons (vi_cons (by decide +kernel : ((Int8.ofInt 10).toInt32) = (Int32.ofInt 10)) (vi_cons (by decide +kernel : ((Int8.ofInt 9).toInt32) = (Int32.ofInt 9)) (vi_cons (by decide +kernel : ((Int8.ofInt 11).toInt32) = (Int32.ofInt 11)) rfl)))) rfl rfl rfl ?_
  have o10738 := (f10734 277 _ (by decide) o10732)
  have o10739 := (f10734 294 _ (by decide) (f10707 294 _ (by decide) o10681))
  refine y_callVR (M := M_X12_determinant) (M' := M_X12_add) rfl rfl dX12_determinant_62 m_X12_add t_3174 t_3176 s_214 (q10571 hl o10738 o10737 o10736 o10739) rfl rfl o10738 rfl (Nat.le_of_ble_eq_true rfl) (Nat.le_of_ble_eq_true rfl) (Nat.le_of_ble_eq_true rfl) (Nat.le_of_ble_eq_true rfl) (fun h10740 f10741 w10742 => ?_)
  obtain ⟨o10743, o10744, o10745, -⟩ := w10742
  refine x_aload_n (M := M_X12_determinant) dX12_determinant_65 rfl ?_
  refine x_bipush (M := M_X12_determinant) dX12_determinant_66 ?_
  refine x_iconst (M := M_X12_determinant) dX12_determinant_68 ?_
  refine x_iload_n (M := M_X12_determinant) dX12_determinant_69 rfl ?_
  refine x_imul (M := M_X12_determinant) dX12_determinant_70 ?_
  refine x_bipush (M := M_X12_determinant) dX12_determinant_71 ?_
  refine x_norm (M := M_X12_determinant) (st' := [.int (Int32.ofInt 11), .int (Int32.ofInt 3), .int (Int32.ofInt 12), .ref 277]) rfl (vi_cons (by decide +kernel : ((Int8.ofInt 11).toInt32) = (Int32.ofInt 11)) (vi_cons (by decide +kernel : ((Int32.ofInt 3) * (Int32.ofInt 1)) = (Int32.ofInt 3)) (vi_cons (by decide +kernel : ((Int8.ofInt 12).toInt32) = (Int32.ofInt 12)) rfl))) rfl rfl rfl ?_
  have o10767 := (f10741 277 _ (by decide) o10738)
  refine y_callVR (M := M_X12_determinant) (M' := M_X12_times) rfl rfl dX12_determinant_73 m_X12_times t_3194 t_3196 s_219 (q10766 hl o10767 o10744 o10745) rfl rfl o10767 rfl (Nat.le_of_ble_eq_true rfl) (Nat.le_of_ble_eq_true rfl) (Nat.le_of_ble_eq_true rfl) (Nat.le_of_ble_eq_true rfl) (fun h10768 f10769 w10770 => ?_)
  obtain ⟨o10771, o10772, -⟩ := w10770
  refine x_aload_n (M := M_X12_determinant) dX12_determinant_76 rfl ?_
  refine x_bipush (M := M_X12_determinant) dX12_determinant_77 ?_
  refine x_bipush (M := M_X12_determinant) dX12_determinant_79 ?_
  refine x_bipush (M := M_X12_determinant) dX12_determinant_81 ?_
  refine x_iconst (M := M_X12_determinant) dX12_determinant_83 ?_
  refine x_norm (M := M_X12_determinant) (st' := [.int (Int32.ofInt 0), .int (Int32.ofInt 12), .int (Int32.ofInt 15), .int (Int32.ofInt 15), .ref 277]) rfl (v_cons (vi_cons (by decide +kernel : ((Int8.ofInt 12).toInt32) = (Int32.ofInt 12)) (vi_cons (by decide +kernel : ((Int8.ofInt 15).toInt32) = (Int32.ofInt 15)) (vi_cons (by decide +kernel : ((Int8.ofInt 15).toInt32) = (Int32.ofInt 15)) rfl)))) rfl rfl rfl ?_
  have o10773 := (f10769 277 _ (by decide) o10767)
  have o10774 := (f10769 294 _ (by decide) o10743)
  refine y_callVR (M := M_X12_determinant) (M' := M_X12_add) rfl rfl dX12_determinant_84 m_X12_add t_3174 t_3176 s_214 (q10675 hl o10773 o10772 o10771 o10774) rfl rfl o10773 rfl (Nat.le_of_ble_eq_true rfl) (Nat.le_of_ble_eq_true rfl) (Nat.le_of_ble_eq_true rfl) (Nat.le_of_ble_eq_true rfl) (fun h10775 f10776 w10777 => ?_)
  obtain ⟨o10778, o10779, o10780, -⟩ := w10777
  refine x_iinc (M := M_X12_determinant) dX12_determinant_87 rfl (Nat.le_of_ble_eq_true rfl) rfl ?_
  refine x_lvs (M := M_X12_determinant) (lv' := [some (.ref 277), some (.int (Int32.ofInt 2)), some (.int (Int32.ofInt 6)), some (.int (Int32.ofInt 0))]) (by rw [(by decide +kernel : (Int32.ofInt 1) + Int32.ofInt 1 = (Int32.ofInt 2))] <;> rfl) ?_
  refine x_goto (M := M_X12_determinant) (tgt := 9) dX12_determinant_90 (by decide) ?_
  refine x_iload_n (M := M_X12_determinant) dX12_determinant_9 rfl ?_
  refine x_iconst (M := M_X12_determinant) dX12_determinant_10 ?_
  refine x_icmp_ge (M := M_X12_determinant) (tgt := 93) dX12_determinant_11 (by decide) (fun q => absurd q (by decide +kernel)) (fun _ => ?_)
  refine x_iconst (M := M_X12_determinant) dX12_determinant_14 ?_
  refine x_iload_n (M := M_X12_determinant) dX12_determinant_15 rfl ?_
  refine x_iconst (M := M_X12_determinant) dX12_determinant_16 ?_
  refine x_iadd (M := M_X12_determinant) dX12_determinant_17 ?_
  refine x_iconst (M := M_X12_determinant) dX12_determinant_18 ?_
  refine x_irem (M := M_X12_determinant) dX12_determinant_19 (by decide +kernel) ?_
  refine x_imul (M := M_X12_determinant) dX12_determinant_20 ?_
  refine x_top (M := M_X12_determinant) (y := (Int32.ofInt 0)) (by decide +kernel) ?_
  refine x_istore_n (M := M_X12_determinant) dX12_determinant_21 (Nat.le_of_ble_eq_true rfl) rfl ?_
  refine x_iconst (M := M_X12_determinant) dX12_determinant_22 ?_
  refine x_iload_n (M := M_X12_determinant) dX12_determinant_23 rfl ?_
  refine x_iconst (M := M_X12_determinant) dX12_determinant_24 ?_
  refine x_iadd (M := M_X12_determinant) dX12_determinant_25 ?_
  refine x_iconst (M := M_X12_determinant) dX12_determinant_26 ?_
  refine x_irem (M := M_X12_determinant) dX12_determinant_27 (by decide +kernel) ?_
  refine x_imul (M := M_X12_determinant) dX12_determinant_28 ?_
  refine x_top (M := M_X12_determinant) (y := (Int32.ofInt 3)) (by decide +kernel) ?_
  refine x_istore_n (M := M_X12_determinant) dX12_determinant_29 (Nat.le_of_ble_eq_true rfl) rfl ?_
  refine x_aload_n (M := M_X12_determinant) dX12_determinant_30 rfl ?_
  refine x_bipush (M := M_X12_determinant) dX12_determinant_31 ?_
  refine x_iload_n (M := M_X12_determinant) dX12_determinant_33 rfl ?_
  refine x_iconst (M := M_X12_determinant) dX12_determinant_34 ?_
  refine x_iadd (M := M_X12_determinant) dX12_determinant_35 ?_
  refine x_iload_n (M := M_X12_determinant) dX12_determinant_36 rfl ?_
  refine x_iconst (M := M_X12_determinant) dX12_determinant_37 ?_
  refine x_iadd (M := M_X12_determinant) dX12_determinant_38 ?_
  refine x_norm (M := M_X12_determinant) (st' := [.int (Int32.ofInt 5), .int (Int32.ofInt 1), .int (Int32.ofInt 9), .ref 277]) rfl (vi_cons (by decide +kernel : ((Int32.ofInt 3) + (Int32.ofInt 2)) = (Int32.ofInt 5)) (vi_cons (by decide +kernel : ((Int32.ofInt 0) + (Int32.ofInt 1)) = (Int32.ofInt 1)) (vi_cons (by decide +kernel : ((Int8.ofInt 9).toInt32) = (Int32.ofInt 9)) rfl))) rfl rfl rfl ?_
  have o10802 := (f10776 277 _ (by decide) o10773)
  refine y_callVR (M := M_X12_determinant) (M' := M_X12_times) rfl rfl dX12_determinant_39 m_X12_times t_3194 t_3196 s_219 (q10801 hl o10802 o10779 o10780) rfl rfl o10802 rfl (Nat.le_of_ble_eq_true rfl) (Nat.le_of_ble_eq_true rfl) (Nat.le_of_ble_eq_true rfl) (Nat.le_of_ble_eq_true rfl) (fun h10803 f10804 w10805 => ?_)
  obtain ⟨o10806, o10807, -⟩ := w10805
  refine x_aload_n (M := M_X12_determinant) dX12_determinant_42 rfl ?_
  refine x_bipush (M := M_X12_determinant) dX12_determinant_43 ?_
  refine x_iload_n (M := M_X12_determinant) dX12_determinant_45 rfl ?_
  refine x_iconst (M := M_X12_determinant) dX12_determinant_46 ?_
  refine x_iadd (M := M_X12_determinant) dX12_determinant_47 ?_
  refine x_iload_n (M := M_X12_determinant) dX12_determinant_48 rfl ?_
  refine x_iconst (M := M_X12_determinant) dX12_determinant_49 ?_
  refine x_iadd (M := M_X12_determinant) dX12_determinant_50 ?_
  refine x_norm (M := M_X12_determinant) (st' := [.int (Int32.ofInt 4), .int (Int32.ofInt 2), .int (Int32.ofInt 10), .ref 277]) rfl (vi_cons (by decide +kernel : ((Int32.ofInt 3) + (Int32.ofInt 1)) = (Int32.ofInt 4)) (vi_cons (by decide +kernel : ((Int32.ofInt 0) + (Int32.ofInt 2)) = (Int32.ofInt 2)) (vi_cons (by decide +kernel : ((Int8.ofInt 10).toInt32) = (Int32.ofInt 10)) rfl))) rfl rfl rfl ?_
  have o10829 := (f10804 277 _ (by decide) o10802)
  refine y_callVR (M := M_X12_determinant) (M' := M_X12_times) rfl rfl dX12_determinant_51 m_X12_times t_3194 t_3196 s_219 (q10828 hl o10829 o10806 o10807) rfl rfl o10829 rfl (Nat.le_of_ble_eq_true rfl) (Nat.le_of_ble_eq_true rfl) (Nat.le_of_ble_eq_true rfl) (Nat.le_of_ble_eq_true rfl) (fun h10830 f10831 w10832 => ?_)
  obtain ⟨o10833, o10834, -⟩ := w10832
  refine x_aload_n (M := M_X12_determinant) dX12_determinant_54 rfl ?_
  refine x_bipush (M := M_X12_determinant) dX12_determinant_55 ?_
  refine x_bipush (M := M_X12_determinant) dX12_determinant_57 ?_
  refine x_bipush (M := M_X12_determinant) dX12_determinant_59 ?_
  refine x_iconst (M := M_X12_determinant) dX12_determinant_61 ?_
  refine x_norm (M := M_X12_determinant) (st' := [.int (Int32.ofInt 1), .int (Int32.ofInt 10), .int (Int32.ofInt 9), .int (Int32.ofInt 11), .ref 277]) rfl (v_cons (vi_cons (by decide +kernel : ((Int8.ofInt 10).toInt32) = (Int32.ofInt 10)) (vi_cons (by decide +kernel : ((Int8.ofInt 9).toInt32) = (Int32.ofInt 9)) (vi_cons (by decide +kernel : ((Int8.ofInt 11).toInt32) = (Int32.ofInt 11)) rfl)))) rfl rfl rfl ?_
  have o10835 := (f10831 277 _ (by decide) o10829)
  have o10836 := (f10831 294 _ (by decide) (f10804 294 _ (by decide) o10778))
  refine y_callVR (M := M_X12_determinant) (M' := M_X12_add) rfl rfl dX12_determinant_62 m_X12_add t_3174 t_3176 s_214 (q10571 hl o10835 o10834 o10833 o10836) rfl rfl o10835 rfl (Nat.le_of_ble_eq_true rfl) (Nat.le_of_ble_eq_true rfl) (Nat.le_of_ble_eq_true rfl) (Nat.le_of_ble_eq_true rfl) (fun h10837 f10838 w10839 => ?_)
  obtain ⟨o10840, o10841, o10842, -⟩ := w10839
  refine x_aload_n (M := M_X12_determinant) dX12_determinant_65 rfl ?_
  refine x_bipush (M := M_X12_determinant) dX12_determinant_66 ?_
  refine x_iconst (M := M_X12_determinant) dX12_determinant_68 ?_
  refine x_iload_n (M := M_X12_determinant) dX12_determinant_69 rfl ?_
  refine x_imul (M := M_X12_determinant) dX12_determinant_70 ?_
  refine x_bipush (M := M_X12_determinant) dX12_determinant_71 ?_
  refine x_norm (M := M_X12_determinant) (st' := [.int (Int32.ofInt 11), .int (Int32.ofInt 6), .int (Int32.ofInt 12), .ref 277]) rfl (vi_cons (by decide +kernel : ((Int8.ofInt 11).toInt32) = (Int32.ofInt 11)) (vi_cons (by decide +kernel : ((Int32.ofInt 3) * (Int32.ofInt 2)) = (Int32.ofInt 6)) (vi_cons (by decide +kernel : ((Int8.ofInt 12).toInt32) = (Int32.ofInt 12)) rfl))) rfl rfl rfl ?_
  have o10864 := (f10838 277 _ (by decide) o10835)
  refine y_callVR (M := M_X12_determinant) (M' := M_X12_times) rfl rfl dX12_determinant_73 m_X12_times t_3194 t_3196 s_219 (q10863 hl o10864 o10841 o10842) rfl rfl o10864 rfl (Nat.le_of_ble_eq_true rfl) (Nat.le_of_ble_eq_true rfl) (Nat.le_of_ble_eq_true rfl) (Nat.le_of_ble_eq_true rfl) (fun h10865 f10866 w10867 => ?_)
  obtain ⟨o10868, o10869, -⟩ := w10867
  refine x_aload_n (M := M_X12_determinant) dX12_determinant_76 rfl ?_
  refine x_bipush (M := M_X12_determinant) dX12_determinant_77 ?_
  refine x_bipush (M := M_X12_determinant) dX12_determinant_79 ?_
  refine x_bipush (M := M_X12_determinant) dX12_determinant_81 ?_
  refine x_iconst (M := M_X12_determinant) dX12_determinant_83 ?_
  refine x_norm (M := M_X12_determinant) (st' := [.int (Int32.ofInt 0), .int (Int32.ofInt 12), .int (Int32.ofInt 15), .int (Int32.ofInt 15), .ref 277]) rfl (v_cons (vi_cons (by decide +kernel : ((Int8.ofInt 12).toInt32) = (Int32.ofInt 12)) (vi_cons (by decide +kernel : ((Int8.ofInt 15).toInt32) = (Int32.ofInt 15)) (vi_cons (by decide +kernel : ((Int8.ofInt 15).toInt32) = (Int32.ofInt 15)) rfl)))) rfl rfl rfl ?_
  have o10870 := (f10866 277 _ (by decide) o10864)
  have o10871 := (f10866 294 _ (by decide) o10840)
  refine y_callVR (M := M_X12_determinant) (M' := M_X12_add) rfl rfl dX12_determinant_84 m_X12_add t_3174 t_3176 s_214 (q10675 hl o10870 o10869 o10868 o10871) rfl rfl o10870 rfl (Nat.le_of_ble_eq_true rfl) (Nat.le_of_ble_eq_true rfl) (Nat.le_of_ble_eq_true rfl) (Nat.le_of_ble_eq_true rfl) (fun h10872 f10873 w10874 => ?_)
  obtain ⟨o10875, o10876, o10877, -⟩ := w10874
  refine x_iinc (M := M_X12_determinant) dX12_determinant_87 rfl (Nat.le_of_ble_eq_true rfl) rfl ?_
  refine x_lvs (M := M_X12_determinant) (lv' := [some (.ref 277), some (.int (Int32.ofInt 3)), some (.int (Int32.ofInt 0)), some (.int (Int32.ofInt 3))]) (by rw [(by decide +kernel : (Int32.ofInt 2) + Int32.ofInt 1 = (Int32.ofInt 3))] <;> rfl) ?_
  refine x_goto (M := M_X12_determinant) (tgt := 9) dX12_determinant_90 (by decide) ?_
  refine x_iload_n (M := M_X12_determinant) dX12_determinant_9 rfl ?_
  refine x_iconst (M := M_X12_determinant) dX12_determinant_10 ?_
  refine x_icmp_ge (M := M_X12_determinant) (tgt := 93) dX12_determinant_11 (by decide) (fun _ => ?_) (fun q => absurd q (by decide +kernel))
  refine x_aload_n (M := M_X12_determinant) dX12_determinant_93 rfl ?_
  have o10878 := (f10873 277 _ (by decide) o10870)
  refine x_getf (M := M_X12_determinant) (ci := 15) (C := RX12) (T := TX12) (N := 135) (ty := tyX12) cl15 dX12_determinant_94 o10878 38 (by decide) t_2429 (v := .ref 296) rfl ?_
  refine x_bipush (M := M_X12_determinant) dX12_determinant_97 ?_
  refine x_iald (M := M_X12_determinant) dX12_determinant_99 o10877 (vp_inD (by decide +kernel)) ?_
  refine x_top (M := M_X12_determinant) (y := (Int32.ofInt 0)) (by decide +kernel) ?_
  exact x_iret (M := M_X12_determinant) dX12_determinant_100 rfl ⟨rfl, (fr_tr f10873 (by decide) (fr_tr f10866 (by decide) (fr_tr f10838 (by decide) (fr_tr f10831 (by decide) (fr_tr f10804 (by decide) (fr_tr f10776 (by decide) (fr_tr f10769 (by decide) (fr_tr f10741 (by decide) (fr_tr f10734 (by decide) (fr_tr f10707 (by decide) (fr_tr f10679 (by decide) (fr_tr f10611 (by decide) (fr_tr f10575 (by decide) (fr_tr f10513 (by decide) (fr_tr f10486 (by decide) (fr_tr f10458 (by decide) fr_rf)))))))))))))))), ⟨o10875, o10876, o10877, trivial⟩⟩ (Nat.le_of_ble_eq_true rfl) (Nat.le_of_ble_eq_true rfl)
set_option maxRecDepth 10000 in
theorem q10888 {l : Launch} {E : EE} (hl : l.stackTraces = false) {h : HP} {a0 : Int32} {a1 : Int32} {a2 : Int32} {a3 : Int32} {dg : Int32} (c0 : ¬ (a0.toInt < 0)) (c1 : a0.toInt < 32) (c2 : ¬ (a1.toInt < 0)) (c3 : a1.toInt < 32) (c4 : ¬ (a2.toInt < 0)) (c5 : a2.toInt < 32) (c6 : ¬ (a3.toInt < 0)) (c7 : a3.toInt < 32) (o9633 : ob h 277 = some (.inr (15, (RB dg)))) (o9669 : ob h 297 = some (.inl (1, 32, .inr (.inl (fun _ => 0))))) (o9671 : ob h 294 = some (.inl (1, 6000, .inr (.inl (fun _ => 0))))) (o9673 : ob h 295 = some (.inl (0, 20, .inl (fun _ => 0)))) (o9675 : ob h 296 = some (.inl (0, 20, .inl (fun _ => 0)))) (o9711 : ob h 298 = some (.inl (1, 32, .inr (.inl (fun _ => 0))))) : en_C l E M_X12_circle 4 0 0 [.ref 277, .int a0, .int a1, .int a2, .int a3] h (pF (some (.int (Int32.ofInt 0))) [277, 294, 295, 296] h (fun h' => ob h' 277 = some (.inr (15, ((RB dg).set 0 (.int (Int32.ofInt 0))))) ∧ ob h' 294 = some (.inl (1, 6000, .inr (.inl (fun _ => 0)))) ∧ ob h' 295 = some (.inl (0, 20, .inl (fun _ => 0))) ∧ ob h' 296 = some (.inl (0, 20, .inl (fun _ => 0))) ∧ True)) := by
  refine en_mk m_X12_circle rfl hl (Nat.le_of_ble_eq_true rfl) ?_
  refine x_aload_n (M := M_X12_circle) dX12_circle_0 rfl ?_
  refine x_iconst (M := M_X12_circle) dX12_circle_1 ?_
  refine y_put (M := M_X12_circle) (ci := 15) (C := RX12) (T := TX12) (N := 135) (ty := tyX12) cl15 dX12_circle_2 o9633 0 (by decide) t_2391 (Or.inl rfl) (Nat.le_of_ble_eq_true rfl) rfl (fun h9634 w9635 f9636 => ?_)
  refine x_aload_n (M := M_X12_circle) dX12_circle_5 rfl ?_
  refine x_iload_n (M := M_X12_circle) dX12_circle_6 rfl ?_
  refine x_callSR (M := M_X12_circle) (M' := M_X12_isPoint) rfl rfl dX12_circle_7 m_X12_isPoint t_3154 t_3155 (q4351 hl c0 c1) rfl rfl (Nat.le_of_ble_eq_true rfl) (Nat.le_of_ble_eq_true rfl) (Nat.le_of_ble_eq_true rfl) (Nat.le_of_ble_eq_true rfl) ?_
  refine x_if_eq (M := M_X12_circle) (tgt := 35) dX12_circle_10 (by decide) (fun q => absurd q (by decide +kernel)) (fun _ => ?_)
  refine x_iload_n (M := M_X12_circle) dX12_circle_13 rfl ?_
  refine x_callSR (M := M_X12_circle) (M' := M_X12_isPoint) rfl rfl dX12_circle_14 m_X12_isPoint t_3154 t_3155 (q6574 hl c2 c3) rfl rfl (Nat.le_of_ble_eq_true rfl) (Nat.le_of_ble_eq_true rfl) (Nat.le_of_ble_eq_true rfl) (Nat.le_of_ble_eq_true rfl) ?_
  refine x_if_eq (M := M_X12_circle) (tgt := 35) dX12_circle_17 (by decide) (fun q => absurd q (by decide +kernel)) (fun _ => ?_)
  refine x_iload_n (M := M_X12_circle) dX12_circle_20 rfl ?_
  refine x_callSR (M := M_X12_circle) (M' := M_X12_isPoint) rfl rfl dX12_circle_21 m_X12_isPoint t_3154 t_3155 (q7466 hl c4 c5) rfl rfl (Nat.le_of_ble_eq_true rfl) (Nat.le_of_ble_eq_true rfl) (Nat.le_of_ble_eq_true rfl) (Nat.le_of_ble_eq_true rfl) ?_
  refine x_if_eq (M := M_X12_circle) (tgt := 35) dX12_circle_24 (by decide) (fun q => absurd q (by decide +kernel)) (fun _ => ?_)
  refine x_iload (M := M_X12_circle) dX12_circle_27 rfl ?_
  refine x_callSR (M := M_X12_circle) (M' := M_X12_isPoint) rfl rfl dX12_circle_29 m_X12_isPoint t_3154 t_3155 (q9637 hl c6 c7) rfl rfl (Nat.le_of_ble_eq_true rfl) (Nat.le_of_ble_eq_true rfl) (Nat.le_of_ble_eq_true rfl) (Nat.le_of_ble_eq_true rfl) ?_
  refine x_if_ne (M := M_X12_circle) (tgt := 39) dX12_circle_32 (by decide) (fun _ => ?_) (fun q => absurd q (by decide +kernel))
  refine x_iconst (M := M_X12_circle) dX12_circle_39 ?_
  refine x_iconst (M := M_X12_circle) dX12_circle_40 ?_
  refine y_callVR (M := M_X12_circle) (M' := M_X12_fails) rfl rfl dX12_circle_41 m_X12_fails t_2805 t_2807 s_157 (q241 hl w9635) rfl rfl w9635 rfl (Nat.le_of_ble_eq_true rfl) (Nat.le_of_ble_eq_true rfl) (Nat.le_of_ble_eq_true rfl) (Nat.le_of_ble_eq_true rfl) (fun h9638 f9639 w9640 => ?_)
  obtain ⟨o9641, -⟩ := w9640
  refine x_if_eq (M := M_X12_circle) (tgt := 49) dX12_circle_44 (by decide) (fun _ => ?_) (fun q => absurd q (by decide +kernel))
  refine x_aload_n (M := M_X12_circle) dX12_circle_49 rfl ?_
  refine x_iconst (M := M_X12_circle) dX12_circle_50 ?_
  refine x_iconst (M := M_X12_circle) dX12_circle_51 ?_
  refine x_iload_n (M := M_X12_circle) dX12_circle_52 rfl ?_
  refine x_iload (M := M_X12_circle) dX12_circle_53 rfl ?_
  have o9670 := (f9639 297 _ (by decide) (f9636 297 _ (by decide) o9669))
  have o9672 := (f9639 294 _ (by decide) (f9636 294 _ (by decide) o9671))
  have o9674 := (f9639 295 _ (by decide) (f9636 295 _ (by decide) o9673))
  have o9676 := (f9639 296 _ (by decide) (f9636 296 _ (by decide) o9675))
  refine y_callVR (M := M_X12_circle) (M' := M_X12_between) rfl rfl dX12_circle_55 m_X12_between t_3161 t_3163 s_211 (q9668 hl c0 c1 c6 c7 o9641 o9670 o9672 o9674 o9676) rfl rfl o9641 rfl (Nat.le_of_ble_eq_true rfl) (Nat.le_of_ble_eq_true rfl) (Nat.le_of_ble_eq_true rfl) (Nat.le_of_ble_eq_true rfl) (fun h9677 f9678 w9679 => ?_)
  obtain ⟨o9680, o9681, o9682, -⟩ := w9679
  refine x_aload_n (M := M_X12_circle) dX12_circle_58 rfl ?_
  refine x_iconst (M := M_X12_circle) dX12_circle_59 ?_
  refine x_iconst (M := M_X12_circle) dX12_circle_60 ?_
  refine x_iload_n (M := M_X12_circle) dX12_circle_61 rfl ?_
  refine x_iload (M := M_X12_circle) dX12_circle_62 rfl ?_
  have o9710 := (f9678 277 _ (by decide) o9641)
  have o9712 := (f9678 298 _ (by decide) (f9639 298 _ (by decide) (f9636 298 _ (by decide) o9711)))
  refine y_callVR (M := M_X12_circle) (M' := M_X12_between) rfl rfl dX12_circle_64 m_X12_between t_3161 t_3163 s_211 (q9709 hl c0 c1 c6 c7 o9710 o9712 o9680 o9681 o9682) rfl rfl o9710 rfl (Nat.le_of_ble_eq_true rfl) (Nat.le_of_ble_eq_true rfl) (Nat.le_of_ble_eq_true rfl) (Nat.le_of_ble_eq_true rfl) (fun h9713 f9714 w9715 => ?_)
  obtain ⟨o9716, o9717, o9718, -⟩ := w9715
  refine x_aload_n (M := M_X12_circle) dX12_circle_67 rfl ?_
  refine x_iconst (M := M_X12_circle) dX12_circle_68 ?_
  refine x_iconst (M := M_X12_circle) dX12_circle_69 ?_
  refine x_iload_n (M := M_X12_circle) dX12_circle_70 rfl ?_
  refine x_iload (M := M_X12_circle) dX12_circle_71 rfl ?_
  have o9746 := (f9714 277 _ (by decide) o9710)
  have o9747 := (f9714 297 _ (by decide) (f9678 297 _ (by decide) o9670))
  refine y_callVR (M := M_X12_circle) (M' := M_X12_between) rfl rfl dX12_circle_73 m_X12_between t_3161 t_3163 s_211 (q9745 hl c2 c3 c6 c7 o9746 o9747 o9716 o9717 o9718) rfl rfl o9746 rfl (Nat.le_of_ble_eq_true rfl) (Nat.le_of_ble_eq_true rfl) (Nat.le_of_ble_eq_true rfl) (Nat.le_of_ble_eq_true rfl) (fun h9748 f9749 w9750 => ?_)
  obtain ⟨o9751, o9752, o9753, -⟩ := w9750
  refine x_aload_n (M := M_X12_circle) dX12_circle_76 rfl ?_
  refine x_iconst (M := M_X12_circle) dX12_circle_77 ?_
  refine x_iconst (M := M_X12_circle) dX12_circle_78 ?_
  refine x_iload_n (M := M_X12_circle) dX12_circle_79 rfl ?_
  refine x_iload (M := M_X12_circle) dX12_circle_80 rfl ?_
  have o9836 := (f9749 277 _ (by decide) o9746)
  have o9837 := (f9749 298 _ (by decide) (f9714 298 _ (by decide) o9712))
  refine y_callVR (M := M_X12_circle) (M' := M_X12_between) rfl rfl dX12_circle_82 m_X12_between t_3161 t_3163 s_211 (q9835 hl c2 c3 c6 c7 o9836 o9837 o9751 o9752 o9753) rfl rfl o9836 rfl (Nat.le_of_ble_eq_true rfl) (Nat.le_of_ble_eq_true rfl) (Nat.le_of_ble_eq_true rfl) (Nat.le_of_ble_eq_true rfl) (fun h9838 f9839 w9840 => ?_)
  obtain ⟨o9841, o9842, o9843, -⟩ := w9840
  refine x_aload_n (M := M_X12_circle) dX12_circle_85 rfl ?_
  refine x_bipush (M := M_X12_circle) dX12_circle_86 ?_
  refine x_iconst (M := M_X12_circle) dX12_circle_88 ?_
  refine x_iload_n (M := M_X12_circle) dX12_circle_89 rfl ?_
  refine x_iload (M := M_X12_circle) dX12_circle_90 rfl ?_
  refine x_norm (M := M_X12_circle) (st' := [.int a3, .int a2, .int (Int32.ofInt 1), .int (Int32.ofInt 6), .ref 277]) rfl (v_cons (v_cons (v_cons (vi_cons (by decide +kernel : ((Int8.ofInt 6).toInt32) = (Int32.ofInt 6)) rfl)))) rfl rfl rfl ?_
  have o9910 := (f9839 277 _ (by decide) o9836)
  have o9911 := (f9839 297 _ (by decide) (f9749 297 _ (by decide) o9747))
  refine y_callVR (M := M_X12_circle) (M' := M_X12_between) rfl rfl dX12_circle_92 m_X12_between t_3161 t_3163 s_211 (q9909 hl c4 c5 c6 c7 o9910 o9911 o9841 o9842 o9843) rfl rfl o9910 rfl (Nat.le_of_ble_eq_true rfl) (Nat.le_of_ble_eq_true rfl) (Nat.le_of_ble_eq_true rfl) (Nat.le_of_ble_eq_true rfl) (fun h9912 f9913 w9914 => ?_)
  obtain ⟨o9915, o9916, o9917, -⟩ := w9914
  refine x_aload_n (M := M_X12_circle) dX12_circle_95 rfl ?_
  refine x_bipush (M := M_X12_circle) dX12_circle_96 ?_
  refine x_iconst (M := M_X12_circle) dX12_circle_98 ?_
  refine x_iload_n (M := M_X12_circle) dX12_circle_99 rfl ?_
  refine x_iload (M := M_X12_circle) dX12_circle_100 rfl ?_
  refine x_norm (M := M_X12_circle) (st' := [.int a3, .int a2, .int (Int32.ofInt 0), .int (Int32.ofInt 7), .ref 277]) rfl (v_cons (v_cons (v_cons (vi_cons (by decide +kernel : ((Int8.ofInt 7).toInt32) = (Int32.ofInt 7)) rfl)))) rfl rfl rfl ?_
  have o10000 := (f9913 277 _ (by decide) o9910)
  have o10001 := (f9913 298 _ (by decide) (f9839 298 _ (by decide) o9837))
  refine y_callVR (M := M_X12_circle) (M' := M_X12_between) rfl rfl dX12_circle_102 m_X12_between t_3161 t_3163 s_211 (q9999 hl c4 c5 c6 c7 o10000 o10001 o9915 o9916 o9917) rfl rfl o10000 rfl (Nat.le_of_ble_eq_true rfl) (Nat.le_of_ble_eq_true rfl) (Nat.le_of_ble_eq_true rfl) (Nat.le_of_ble_eq_true rfl) (fun h10002 f10003 w10004 => ?_)
  obtain ⟨o10005, o10006, o10007, -⟩ := w10004
  refine x_iconst (M := M_X12_circle) dX12_circle_105 ?_
  refine x_istore (M := M_X12_circle) dX12_circle_106 (Nat.le_of_ble_eq_true rfl) rfl ?_
  refine x_iload (M := M_X12_circle) dX12_circle_108 rfl ?_
  refine x_iconst (M := M_X12_circle) dX12_circle_110 ?_
  refine x_icmp_ge (M := M_X12_circle) (tgt := 126) dX12_circle_111 (by decide) (fun q => absurd q (by decide +kernel)) (fun _ => ?_)
  refine x_aload_n (M := M_X12_circle) dX12_circle_114 rfl ?_
  refine x_iload (M := M_X12_circle) dX12_circle_115 rfl ?_
  have o10135 := (f10003 277 _ (by decide) o10000)
  refine y_callVR (M := M_X12_circle) (M' := M_X12_squares) rfl rfl dX12_circle_117 m_X12_squares t_3202 t_3204 s_220 (q10134 hl o10135 o10006 o10007 o10005) rfl rfl o10135 rfl (Nat.le_of_ble_eq_true rfl) (Nat.le_of_ble_eq_true rfl) (Nat.le_of_ble_eq_true rfl) (Nat.le_of_ble_eq_true rfl) (fun h10136 f10137 w10138 => ?_)
  obtain ⟨o10139, o10140, o10141, -⟩ := w10138
  refine x_iinc (M := M_X12_circle) dX12_circle_120 rfl (Nat.le_of_ble_eq_true rfl) rfl ?_
  refine x_lvs (M := M_X12_circle) (lv' := [some (.ref 277), some (.int a0), some (.int a1), some (.int a2), some (.int a3), some (.int (Int32.ofInt 1))]) (by rw [(by decide +kernel : (Int32.ofInt 0) + Int32.ofInt 1 = (Int32.ofInt 1))] <;> rfl) ?_
  refine x_goto (M := M_X12_circle) (tgt := 108) dX12_circle_123 (by decide) ?_
  refine x_iload (M := M_X12_circle) dX12_circle_108 rfl ?_
  refine x_iconst (M := M_X12_circle) dX12_circle_110 ?_
  refine x_icmp_ge (M := M_X12_circle) (tgt := 126) dX12_circle_111 (by decide) (fun q => absurd q (by decide +kernel)) (fun _ => ?_)
  refine x_aload_n (M := M_X12_circle) dX12_circle_114 rfl ?_
  refine x_iload (M := M_X12_circle) dX12_circle_115 rfl ?_
  have o10263 := (f10137 277 _ (by decide) o10135)
  refine y_callVR (M := M_X12_circle) (M' := M_X12_squares) rfl rfl dX12_circle_117 m_X12_squares t_3202 t_3204 s_220 (q10262 hl o10263 o10139 o10140 o10141) rfl rfl o10263 rfl (Nat.le_of_ble_eq_true rfl) (Nat.le_of_ble_eq_true rfl) (Nat.le_of_ble_eq_true rfl) (Nat.le_of_ble_eq_true rfl) (fun h10264 f10265 w10266 => ?_)
  obtain ⟨o10267, o10268, o10269, -⟩ := w10266
  refine x_iinc (M := M_X12_circle) dX12_circle_120 rfl (Nat.le_of_ble_eq_true rfl) rfl ?_
  refine x_lvs (M := M_X12_circle) (lv' := [some (.ref 277), some (.int a0), some (.int a1), some (.int a2), some (.int a3), some (.int (Int32.ofInt 2))]) (by rw [(by decide +kernel : (Int32.ofInt 1) + Int32.ofInt 1 = (Int32.ofInt 2))] <;> rfl) ?_
  refine x_goto (M := M_X12_circle) (tgt := 108) dX12_circle_123 (by decide) ?_
  refine x_iload (M := M_X12_circle) dX12_circle_108 rfl ?_
  refine x_iconst (M := M_X12_circle) dX12_circle_110 ?_
  refine x_icmp_ge (M := M_X12_circle) (tgt := 126) dX12_circle_111 (by decide) (fun q => absurd q (by decide +kernel)) (fun _ => ?_)
  refine x_aload_n (M := M_X12_circle) dX12_circle_114 rfl ?_
  refine x_iload (M := M_X12_circle) dX12_circle_115 rfl ?_
  have o10391 := (f10265 277 _ (by decide) o10263)
  refine y_callVR (M := M_X12_circle) (M' := M_X12_squares) rfl rfl dX12_circle_117 m_X12_squares t_3202 t_3204 s_220 (q10390 hl o10391 o10267 o10268 o10269) rfl rfl o10391 rfl (Nat.le_of_ble_eq_true rfl) (Nat.le_of_ble_eq_true rfl) (Nat.le_of_ble_eq_true rfl) (Nat.le_of_ble_eq_true rfl) (fun h10392 f10393 w10394 => ?_)
  obtain ⟨o10395, o10396, o10397, -⟩ := w10394
  refine x_iinc (M := M_X12_circle) dX12_circle_120 rfl (Nat.le_of_ble_eq_true rfl) rfl ?_
  refine x_lvs (M := M_X12_circle) (lv' := [some (.ref 277), some (.int a0), some (.int a1), some (.int a2), some (.int a3), some (.int (Int32.ofInt 3))]) (by rw [(by decide +kernel : (Int32.ofInt 2) + Int32.ofInt 1 = (Int32.ofInt 3))] <;> rfl) ?_
  refine x_goto (M := M_X12_circle) (tgt := 108) dX12_circle_123 (by decide) ?_
  refine x_iload (M := M_X12_circle) dX12_circle_108 rfl ?_
  refine x_iconst (M := M_X12_circle) dX12_circle_110 ?_
  refine x_icmp_ge (M := M_X12_circle) (tgt := 126) dX12_circle_111 (by decide) (fun _ => ?_) (fun q => absurd q (by decide +kernel))
  refine x_aload_n (M := M_X12_circle) dX12_circle_126 rfl ?_
  have o10880 := (f10393 277 _ (by decide) o10391)
  refine y_callVR (M := M_X12_circle) (M' := M_X12_determinant) rfl rfl dX12_circle_127 m_X12_determinant t_3206 t_3208 s_221 (q10879 hl o10880 o10397 o10395 o10396) rfl rfl o10880 rfl (Nat.le_of_ble_eq_true rfl) (Nat.le_of_ble_eq_true rfl) (Nat.le_of_ble_eq_true rfl) (Nat.le_of_ble_eq_true rfl) (fun h10881 f10882 w10883 => ?_)
  obtain ⟨o10884, o10885, o10886, -⟩ := w10883
  have o10887 := (f10882 277 _ (by decide) o10880)
  exact x_iret (M := M_X12_circle) dX12_circle_130 rfl ⟨rfl, (fr_tr f10882 (by decide) (fr_tr f10393 (by decide) (fr_tr f10265 (by decide) (fr_tr f10137 (by decide) (fr_tr f10003 (by decide) (fr_tr f9913 (by decide) (fr_tr f9839 (by decide) (fr_tr f9749 (by decide) (fr_tr f9714 (by decide) (fr_tr f9678 (by decide) (fr_tr f9639 (by decide) (fr_tr f9636 (by decide) fr_rf)))))))))))), ⟨o10887, o10884, o10885, o10886, trivial⟩⟩ (Nat.le_of_ble_eq_true rfl) (Nat.le_of_ble_eq_true rfl)
set_option maxRecDepth 10000 in
theorem lc31_4 {l : Launch} {E : EE} (hl : l.stackTraces = false) (nm : String) {xs : Nat → Int32} (hx : E.2.2.2.2 0 = some (7, xs)) {h : HP} {a0 : Int32} {a1 : Int32} {a2 : Int32} {a3 : Int32} {dg : Int32} (e2 : xs 2 = a0) (e3 : xs 3 = a1) (e4 : xs 4 = a2) (e5 : xs 5 = a3) (c0 : ¬ (a0.toInt < 0)) (c1 : a0.toInt < 32) (c2 : ¬ (a1.toInt < 0)) (c3 : a1.toInt < 32) (c4 : ¬ (a2.toInt < 0)) (c5 : a2.toInt < 32) (c6 : ¬ (a3.toInt < 0)) (c7 : a3.toInt < 32) (o9605 : ob h 32 = some (.inr (14, [.ref 33, .ref 162, .ref 166, .int (0 : Int32), .int (0 : Int32), .int (0 : Int32), .ref 167, .ref 170, .ref 173, .ref 177, .ref 193, .ref 208, .ref 222, .ref 238, .ref 252, .ref 274, .ref 275, .ref 276, .int (0 : Int32)]))) (o9606 : ob h 252 = some (.inr (10, [.ref 253, .ref 254, .ref 255, .ref 272, .ref 273]))) (o9607 : ob h 253 = some (.inl (1, 32, .inr (.inl (fun _ => 0))))) (o9608 : ob h 255 = some (.inl (5, 16, .inr (.inr (.inr (.inr (fun i => if i < 16 then some (255 + 1 + i) else none))))))) (o9609 : ob h 256 = some (.inl (0, 280, .inl (fun _ => 0)))) (o9610 : ob h 272 = some (.inl (0, 16, .inl (fun _ => 0)))) (o9611 : ob h 273 = some (.inl (0, 16, .inl (fun _ => 0)))) (o9612 : ob h 257 = some (.inl (0, 280, .inl (fun _ => 0)))) (o9613 : ob h 258 = some (.inl (0, 280, .inl (fun _ => 0)))) (o9614 : ob h 254 = some (.inl (1, 32, .inr (.inl (fun _ => 0))))) (o9615 : ob h 259 = some (.inl (0, 280, .inl (fun _ => 0)))) (o9616 : ob h 260 = some (.inl (0, 280, .inl (fun _ => 0)))) (o9617 : ob h 261 = some (.inl (0, 280, .inl (fun _ => 0)))) (o9618 : ob h 262 = some (.inl (0, 280, .inl (fun _ => 0)))) (o9619 : ob h 263 = some (.inl (0, 280, .inl (fun _ => 0)))) (o9620 : ob h 269 = some (.inl (0, 280, .inl (fun _ => 0)))) (o9621 : ob h 270 = some (.inl (0, 280, .inl (fun _ => 0)))) (o9622 : ob h 271 = some (.inl (0, 280, .inl (fun _ => 0)))) (o9623 : ob h 264 = some (.inl (0, 280, .inl (fun _ => 0)))) (o9624 : ob h 265 = some (.inl (0, 280, .inl (fun _ => 0)))) (o9625 : ob h 266 = some (.inl (0, 280, .inl (fun _ => 0)))) (o9626 : ob h 267 = some (.inl (0, 280, .inl (fun _ => 0)))) (o9627 : ob h 268 = some (.inl (0, 280, .inl (fun _ => 0)))) (o9628 : ob h 359 = some (.inl (1, 1, .inr (.inl (fun _ => 0))))) (o10889 : ob h 277 = some (.inr (15, (RB dg)))) (o10891 : ob h 297 = some (.inl (1, 32, .inr (.inl (fun _ => 0))))) (o10893 : ob h 294 = some (.inl (1, 6000, .inr (.inl (fun _ => 0))))) (o10895 : ob h 295 = some (.inl (0, 20, .inl (fun _ => 0)))) (o10897 : ob h 296 = some (.inl (0, 20, .inl (fun _ => 0)))) (o10899 : ob h 298 = some (.inl (1, 32, .inr (.inl (fun _ => 0))))) : XX l E (M_law nm) 1312 342628 8074320 (fun o _ => o = .inl (some (.int 1))) 2357 [some (.ref 0), some (.ref 32), some (.ref 277), some (.ref 359), some (.int (Int32.ofInt 1)), none, none, none] [] h 328 2463747 := by
  refine x_aload_n (M := (M_law nm)) dL_law_2357 rfl ?_
  refine x_aload_n (M := (M_law nm)) dL_law_2358 rfl ?_
  refine x_iload (M := (M_law nm)) dL_law_2359 rfl ?_
  refine x_iconst (M := (M_law nm)) dL_law_2361 ?_
  refine x_iadd (M := (M_law nm)) dL_law_2362 ?_
  refine x_sald (M := (M_law nm)) dL_law_2363 (by decide) hx (vp_inD (by decide +kernel)) ?_
  refine x_top (M := (M_law nm)) (y := a0) ((congrArg xs (by decide +kernel : ((Int32.ofInt 1) + (Int32.ofInt 1)).toNatClampNeg = 2)).trans e2) ?_
  refine x_aload_n (M := (M_law nm)) dL_law_2364 rfl ?_
  refine x_iload (M := (M_law nm)) dL_law_2365 rfl ?_
  refine x_iconst (M := (M_law nm)) dL_law_2367 ?_
  refine x_iadd (M := (M_law nm)) dL_law_2368 ?_
  refine x_sald (M := (M_law nm)) dL_law_2369 (by decide) hx (vp_inD (by decide +kernel)) ?_
  refine x_top (M := (M_law nm)) (y := a1) ((congrArg xs (by decide +kernel : ((Int32.ofInt 1) + (Int32.ofInt 2)).toNatClampNeg = 3)).trans e3) ?_
  refine x_aload_n (M := (M_law nm)) dL_law_2370 rfl ?_
  refine x_iload (M := (M_law nm)) dL_law_2371 rfl ?_
  refine x_iconst (M := (M_law nm)) dL_law_2373 ?_
  refine x_iadd (M := (M_law nm)) dL_law_2374 ?_
  refine x_sald (M := (M_law nm)) dL_law_2375 (by decide) hx (vp_inD (by decide +kernel)) ?_
  refine x_top (M := (M_law nm)) (y := a2) ((congrArg xs (by decide +kernel : ((Int32.ofInt 1) + (Int32.ofInt 3)).toNatClampNeg = 4)).trans e4) ?_
  refine x_aload_n (M := (M_law nm)) dL_law_2376 rfl ?_
  refine x_iload (M := (M_law nm)) dL_law_2377 rfl ?_
  refine x_iconst (M := (M_law nm)) dL_law_2379 ?_
  refine x_iadd (M := (M_law nm)) dL_law_2380 ?_
  refine x_sald (M := (M_law nm)) dL_law_2381 (by decide) hx (vp_inD (by decide +kernel)) ?_
  refine x_top (M := (M_law nm)) (y := a3) ((congrArg xs (by decide +kernel : ((Int32.ofInt 1) + (Int32.ofInt 4)).toNatClampNeg = 5)).trans e5) ?_
  refine x_aload_n (M := (M_law nm)) dL_law_2382 rfl ?_
  refine y_callSW (M := (M_law nm)) (M' := M_L_circle) rfl rfl dL_law_2383 m_L_circle t_2364 t_2365 (q9604 hl c0 c1 c2 c3 c4 c5 c6 c7 o9605 o9606 o9607 o9608 o9609 o9610 o9611 o9612 o9613 o9614 o9615 o9616 o9617 o9618 o9619 o9620 o9621 o9622 o9623 o9624 o9625 o9626 o9627 o9628) rfl rfl (Nat.le_of_ble_eq_true rfl) (Nat.le_of_ble_eq_true rfl) (Nat.le_of_ble_eq_true rfl) (Nat.le_of_ble_eq_true rfl) (fun h9629 f9630 w9631 => ?_)
  obtain ⟨o9632, -⟩ := w9631
  refine x_istore (M := (M_law nm)) dL_law_2386 (Nat.le_of_ble_eq_true rfl) rfl ?_
  refine x_aload_n (M := (M_law nm)) dL_law_2388 rfl ?_
  refine x_aload_n (M := (M_law nm)) dL_law_2389 rfl ?_
  refine x_iload (M := (M_law nm)) dL_law_2390 rfl ?_
  refine x_iconst (M := (M_law nm)) dL_law_2392 ?_
  refine x_iadd (M := (M_law nm)) dL_law_2393 ?_
  refine x_sald (M := (M_law nm)) dL_law_2394 (by decide) hx (vp_inD (by decide +kernel)) ?_
  refine x_top (M := (M_law nm)) (y := a0) ((congrArg xs (by decide +kernel : ((Int32.ofInt 1) + (Int32.ofInt 1)).toNatClampNeg = 2)).trans e2) ?_
  refine x_aload_n (M := (M_law nm)) dL_law_2395 rfl ?_
  refine x_iload (M := (M_law nm)) dL_law_2396 rfl ?_
  refine x_iconst (M := (M_law nm)) dL_law_2398 ?_
  refine x_iadd (M := (M_law nm)) dL_law_2399 ?_
  refine x_sald (M := (M_law nm)) dL_law_2400 (by decide) hx (vp_inD (by decide +kernel)) ?_
  refine x_top (M := (M_law nm)) (y := a1) ((congrArg xs (by decide +kernel : ((Int32.ofInt 1) + (Int32.ofInt 2)).toNatClampNeg = 3)).trans e3) ?_
  refine x_aload_n (M := (M_law nm)) dL_law_2401 rfl ?_
  refine x_iload (M := (M_law nm)) dL_law_2402 rfl ?_
  refine x_iconst (M := (M_law nm)) dL_law_2404 ?_
  refine x_iadd (M := (M_law nm)) dL_law_2405 ?_
  refine x_sald (M := (M_law nm)) dL_law_2406 (by decide) hx (vp_inD (by decide +kernel)) ?_
  refine x_top (M := (M_law nm)) (y := a2) ((congrArg xs (by decide +kernel : ((Int32.ofInt 1) + (Int32.ofInt 3)).toNatClampNeg = 4)).trans e4) ?_
  refine x_aload_n (M := (M_law nm)) dL_law_2407 rfl ?_
  refine x_iload (M := (M_law nm)) dL_law_2408 rfl ?_
  refine x_iconst (M := (M_law nm)) dL_law_2410 ?_
  refine x_iadd (M := (M_law nm)) dL_law_2411 ?_
  refine x_sald (M := (M_law nm)) dL_law_2412 (by decide) hx (vp_inD (by decide +kernel)) ?_
  refine x_top (M := (M_law nm)) (y := a3) ((congrArg xs (by decide +kernel : ((Int32.ofInt 1) + (Int32.ofInt 4)).toNatClampNeg = 5)).trans e5) ?_
  have o10890 := (f9630 277 _ (by decide) o10889)
  have o10892 := (f9630 297 _ (by decide) o10891)
  have o10894 := (f9630 294 _ (by decide) o10893)
  have o10896 := (f9630 295 _ (by decide) o10895)
  have o10898 := (f9630 296 _ (by decide) o10897)
  have o10900 := (f9630 298 _ (by decide) o10899)
  refine y_callVR (M := (M_law nm)) (M' := M_X12_circle) rfl rfl dL_law_2413 m_X12_circle t_3198 t_3199 t_3200 (q10888 hl c0 c1 c2 c3 c4 c5 c6 c7 o10890 o10892 o10894 o10896 o10898 o10900) rfl rfl o10890 rfl (Nat.le_of_ble_eq_true rfl) (Nat.le_of_ble_eq_true rfl) (Nat.le_of_ble_eq_true rfl) (Nat.le_of_ble_eq_true rfl) (fun h10901 f10902 w10903 => ?_)
  obtain ⟨o10904, o10905, o10906, o10907, -⟩ := w10903
  refine x_istore (M := (M_law nm)) dL_law_2416 (Nat.le_of_ble_eq_true rfl) rfl ?_
  refine x_aload_n (M := (M_law nm)) dL_law_2418 rfl ?_
  refine x_callVR (M := (M_law nm)) (M' := M_X12_thrown) rfl rfl dL_law_2419 m_X12_thrown t_2797 t_2798 t_2799 (q254 hl o10904) rfl rfl o10904 rfl (Nat.le_of_ble_eq_true rfl) (Nat.le_of_ble_eq_true rfl) (Nat.le_of_ble_eq_true rfl) (Nat.le_of_ble_eq_true rfl) ?_
  refine x_iload (M := (M_law nm)) dL_law_2422 rfl ?_
  refine x_icmp_eq (M := (M_law nm)) (tgt := 2429) dL_law_2424 (by decide) (fun _ => ?_) (fun q => absurd q (by decide +kernel))
  refine x_iload (M := (M_law nm)) dL_law_2429 rfl ?_
  refine x_if_ne (M := (M_law nm)) (tgt := 2446) dL_law_2431 (by decide) (fun q => absurd q (by decide +kernel)) (fun _ => ?_)
  refine x_aload_n (M := (M_law nm)) dL_law_2434 rfl ?_
  refine x_iconst (M := (M_law nm)) dL_law_2435 ?_
  have o10908 := (f10902 359 _ (by decide) o9632)
  refine x_lald (M := (M_law nm)) dL_law_2436 o10908 (vp_inD (by decide +kernel)) ?_
  refine x_topl (M := (M_law nm)) (y := (Int64.ofInt 0)) (by decide +kernel) ?_
  refine x_iload (M := (M_law nm)) dL_law_2437 rfl ?_
  refine x_i2l (M := (M_law nm)) dL_law_2439 ?_
  refine x_lcmp (M := (M_law nm)) dL_law_2440 ?_
  refine x_if_eq (M := (M_law nm)) (tgt := 2446) dL_law_2441 (by decide) (fun _ => ?_) (fun q => absurd q (by decide +kernel))
  refine x_goto (M := (M_law nm)) (tgt := 2449) dL_law_2446 (by decide) ?_
  refine x_iinc (M := (M_law nm)) dL_law_2449 rfl (Nat.le_of_ble_eq_true rfl) rfl ?_
  refine x_lvs (M := (M_law nm)) (lv' := [some (.ref 0), some (.ref 32), some (.ref 277), some (.ref 359), some (.int (Int32.ofInt 7)), some (.int (Int32.ofInt 0)), some (.int (Int32.ofInt 0)), none]) (by rw [(by decide +kernel : (Int32.ofInt 1) + Int32.ofInt 6 = (Int32.ofInt 7))] <;> rfl) ?_
  refine x_goto (M := (M_law nm)) (tgt := 33) dL_law_2452 (by decide) ?_
  refine x_iload (M := (M_law nm)) dL_law_33 rfl ?_
  refine x_aload_n (M := (M_law nm)) dL_law_35 rfl ?_
  refine x_slen (M := (M_law nm)) dL_law_36 (by decide) hx ?_
  refine x_bipush (M := (M_law nm)) dL_law_37 ?_
  refine x_isub (M := (M_law nm)) dL_law_39 ?_
  refine x_icmp_gt (M := (M_law nm)) (tgt := 2455) dL_law_40 (by decide) (fun _ => ?_) (fun q => absurd q (by decide +kernel))
  refine x_iconst (M := (M_law nm)) dL_law_2455 ?_
  exact x_zret (M := (M_law nm)) dL_law_2456 rfl (by decide) rfl (Nat.le_of_ble_eq_true rfl) (Nat.le_of_ble_eq_true rfl)
set_option maxRecDepth 10000 in
theorem q10909 {l : Launch} {E : EE} (hl : l.stackTraces = false) {h : HP} {a3 : Int32} (c0 : ¬ (a3.toInt < 0)) (c1 : ¬ (a3.toInt < 32)) : en_C l E M_X11_isNoSignPoint 0 0 0 [.int a3] h (pR (some (.int (Int32.ofInt 1))) h) := by
  refine en_mk m_X11_isNoSignPoint rfl hl (Nat.le_of_ble_eq_true rfl) ?_
  refine x_iload_n (M := M_X11_isNoSignPoint) dX11_isNoSignPoint_0 rfl ?_
  refine x_if_lt (M := M_X11_isNoSignPoint) (tgt := 10) dX11_isNoSignPoint_1 (by decide) (fun q => absurd ((bi_lt rfl (by decide +kernel)).mp q) (by omega : ¬ (a3.toInt < 0))) (fun _ => ?_)
  refine x_iload_n (M := M_X11_isNoSignPoint) dX11_isNoSignPoint_4 rfl ?_
  refine x_bipush (M := M_X11_isNoSignPoint) dX11_isNoSignPoint_5 ?_
  refine x_icmp_lt (M := M_X11_isNoSignPoint) (tgt := 14) dX11_isNoSignPoint_7 (by decide) (fun q => absurd ((bi_lt rfl (by decide +kernel)).mp q) (by omega : ¬ (a3.toInt < 32))) (fun _ => ?_)
  refine x_iconst (M := M_X11_isNoSignPoint) dX11_isNoSignPoint_10 ?_
  refine x_goto (M := M_X11_isNoSignPoint) (tgt := 15) dX11_isNoSignPoint_11 (by decide) ?_
  exact x_zret (M := M_X11_isNoSignPoint) dX11_isNoSignPoint_15 rfl (by decide) ⟨rfl, rfl⟩ (Nat.le_of_ble_eq_true rfl) (Nat.le_of_ble_eq_true rfl)
set_option maxRecDepth 10000 in
theorem q10911 {l : Launch} {E : EE} (hl : l.stackTraces = false) {h : HP} {a0 : Int32} {a1 : Int32} {a2 : Int32} {a3 : Int32} (c0 : ¬ (a0.toInt < 0)) (c1 : a0.toInt < 32) (c2 : ¬ (a1.toInt < 0)) (c3 : a1.toInt < 32) (c4 : ¬ (a2.toInt < 0)) (c5 : a2.toInt < 32) (c6 : ¬ (a3.toInt < 0)) (c7 : ¬ (a3.toInt < 32)) : en_C l E M_X11_circle 6 1 6 [.ref 32, .int a0, .int a1, .int a2, .int a3] h (pT "java/lang/IndexOutOfBoundsException" [] h (fun _ => True)) := by
  refine en_mk m_X11_circle rfl hl (Nat.le_of_ble_eq_true rfl) ?_
  refine x_iload_n (M := M_X11_circle) dX11_circle_0 rfl ?_
  refine x_callSR (M := M_X11_circle) (M' := M_X11_isNoSignPoint) rfl rfl dX11_circle_1 m_X11_isNoSignPoint t_2309 t_2310 (q4334 hl c0 c1) rfl rfl (Nat.le_of_ble_eq_true rfl) (Nat.le_of_ble_eq_true rfl) (Nat.le_of_ble_eq_true rfl) (Nat.le_of_ble_eq_true rfl) ?_
  refine x_if_ne (M := M_X11_circle) (tgt := 29) dX11_circle_4 (by decide) (fun q => absurd q (by decide +kernel)) (fun _ => ?_)
  refine x_iload_n (M := M_X11_circle) dX11_circle_7 rfl ?_
  refine x_callSR (M := M_X11_circle) (M' := M_X11_isNoSignPoint) rfl rfl dX11_circle_8 m_X11_isNoSignPoint t_2309 t_2310 (q6557 hl c2 c3) rfl rfl (Nat.le_of_ble_eq_true rfl) (Nat.le_of_ble_eq_true rfl) (Nat.le_of_ble_eq_true rfl) (Nat.le_of_ble_eq_true rfl) ?_
  refine x_if_ne (M := M_X11_circle) (tgt := 29) dX11_circle_11 (by decide) (fun q => absurd q (by decide +kernel)) (fun _ => ?_)
  refine x_iload_n (M := M_X11_circle) dX11_circle_14 rfl ?_
  refine x_callSR (M := M_X11_circle) (M' := M_X11_isNoSignPoint) rfl rfl dX11_circle_15 m_X11_isNoSignPoint t_2309 t_2310 (q6587 hl c4 c5) rfl rfl (Nat.le_of_ble_eq_true rfl) (Nat.le_of_ble_eq_true rfl) (Nat.le_of_ble_eq_true rfl) (Nat.le_of_ble_eq_true rfl) ?_
  refine x_if_ne (M := M_X11_circle) (tgt := 29) dX11_circle_18 (by decide) (fun q => absurd q (by decide +kernel)) (fun _ => ?_)
  refine x_iload (M := M_X11_circle) dX11_circle_21 rfl ?_
  refine x_callSR (M := M_X11_circle) (M' := M_X11_isNoSignPoint) rfl rfl dX11_circle_23 m_X11_isNoSignPoint t_2309 t_2310 (q10909 hl c6 c7) rfl rfl (Nat.le_of_ble_eq_true rfl) (Nat.le_of_ble_eq_true rfl) (Nat.le_of_ble_eq_true rfl) (Nat.le_of_ble_eq_true rfl) ?_
  refine x_if_eq (M := M_X11_circle) (tgt := 37) dX11_circle_26 (by decide) (fun q => absurd q (by decide +kernel)) (fun _ => ?_)
  exact x_throw (M := M_X11_circle) (names := en_nm) rfl dX11_circle_29 dX11_circle_32 dX11_circle_33 dX11_circle_36 (by decide +kernel) en_nm_ok (Or.inl t_748) (Or.inl t_22) (at_X11_IndexOutOfBoundsException_139) (Nat.le_of_ble_eq_true rfl) (Nat.le_of_ble_eq_true rfl) (Nat.le_of_ble_eq_true rfl) (Nat.le_of_ble_eq_true rfl) (fun n9 => ⟨rfl, (fr_tr (fr_app (List.replicate n9 none)) (fun _ h => nomatch h) fr_rf), trivial⟩)
set_option maxRecDepth 10000 in
theorem q10916 {l : Launch} {E : EE} (hl : l.stackTraces = false) {h : HP} {a0 : Int32} {a1 : Int32} {a2 : Int32} {a3 : Int32} (c0 : ¬ (a0.toInt < 0)) (c1 : a0.toInt < 32) (c2 : ¬ (a1.toInt < 0)) (c3 : a1.toInt < 32) (c4 : ¬ (a2.toInt < 0)) (c5 : a2.toInt < 32) (c6 : ¬ (a3.toInt < 0)) (c7 : ¬ (a3.toInt < 32)) (o10912 : ob h 32 = some (.inr (14, [.ref 33, .ref 162, .ref 166, .int (0 : Int32), .int (0 : Int32), .int (0 : Int32), .ref 167, .ref 170, .ref 173, .ref 177, .ref 193, .ref 208, .ref 222, .ref 238, .ref 252, .ref 274, .ref 275, .ref 276, .int (0 : Int32)]))) : en_C l E M_L_circle 7 1 6 [.ref 32, .int a0, .int a1, .int a2, .int a3, .ref 359] h (pF (some (.int (Int32.ofInt 1))) [] h (fun _ => True)) := by
  refine en_mkW m_L_circle rfl hl (Nat.le_of_ble_eq_true rfl) ?_
  refine x_aload (M := M_L_circle) dL_circle_0 rfl ?_
  refine x_iconst (M := M_L_circle) dL_circle_2 ?_
  refine x_aload_n (M := M_L_circle) dL_circle_3 rfl ?_
  refine x_iload_n (M := M_L_circle) dL_circle_4 rfl ?_
  refine x_iload_n (M := M_L_circle) dL_circle_5 rfl ?_
  refine x_iload_n (M := M_L_circle) dL_circle_6 rfl ?_
  refine x_iload (M := M_L_circle) dL_circle_7 rfl ?_
  refine y_callVHX (M := M_L_circle) (M' := M_X11_circle) (i9 := 6) (nx := 19) rfl dL_circle_9 m_X11_circle t_2367 t_2368 t_2369 o10912 rfl (q10911 hl c0 c1 c2 c3 c4 c5 c6 c7) rfl rfl (Nat.le_of_ble_eq_true rfl) (Nat.le_of_ble_eq_true rfl) (Nat.le_of_ble_eq_true rfl) (Nat.le_of_ble_eq_true rfl) (en_hdm (k0 := 6) [] [] rfl (fun _ h => nomatch h) (by decide +kernel) (by decide) t_739 n_750 dL_circle_17) (by decide) rfl (fun h10913 f10914 w10915 => ?_)
  refine x_iconst (M := M_L_circle) dL_circle_19 ?_
  exact x_iret (M := M_L_circle) dL_circle_20 rfl ⟨rfl, (fr_tr f10914 (fun _ h => nomatch h) fr_rf), trivial⟩ (Nat.le_of_ble_eq_true rfl) (Nat.le_of_ble_eq_true rfl)
set_option maxRecDepth 10000 in
theorem q10925 {l : Launch} {E : EE} (hl : l.stackTraces = false) {h : HP} {a3 : Int32} (c0 : ¬ (a3.toInt < 0)) (c1 : ¬ (a3.toInt < 32)) : en_C l E M_X12_isPoint 0 0 0 [.int a3] h (pR (some (.int (Int32.ofInt 0))) h) := by
  refine en_mk m_X12_isPoint rfl hl (Nat.le_of_ble_eq_true rfl) ?_
  refine x_iload_n (M := M_X12_isPoint) dX12_isPoint_0 rfl ?_
  refine x_if_lt (M := M_X12_isPoint) (tgt := 14) dX12_isPoint_1 (by decide) (fun q => absurd ((bi_lt rfl (by decide +kernel)).mp q) (by omega : ¬ (a3.toInt < 0))) (fun _ => ?_)
  refine x_iload_n (M := M_X12_isPoint) dX12_isPoint_4 rfl ?_
  refine x_bipush (M := M_X12_isPoint) dX12_isPoint_5 ?_
  refine x_icmp_ge (M := M_X12_isPoint) (tgt := 14) dX12_isPoint_7 (by decide) (fun _ => ?_) (fun q => absurd ((bi_le (by decide +kernel) rfl).mpr (by omega : (32 ≤ a3.toInt : Prop))) q)
  refine x_iconst (M := M_X12_isPoint) dX12_isPoint_14 ?_
  exact x_zret (M := M_X12_isPoint) dX12_isPoint_15 rfl (by decide) ⟨rfl, rfl⟩ (Nat.le_of_ble_eq_true rfl) (Nat.le_of_ble_eq_true rfl)
set_option maxRecDepth 10000 in
theorem q10930 {l : Launch} {E : EE} (hl : l.stackTraces = false) {h : HP} {a0 : Int32} {a1 : Int32} {a2 : Int32} {a3 : Int32} {dg : Int32} (c0 : ¬ (a0.toInt < 0)) (c1 : a0.toInt < 32) (c2 : ¬ (a1.toInt < 0)) (c3 : a1.toInt < 32) (c4 : ¬ (a2.toInt < 0)) (c5 : a2.toInt < 32) (c6 : ¬ (a3.toInt < 0)) (c7 : ¬ (a3.toInt < 32)) (o10921 : ob h 277 = some (.inr (15, (RB dg)))) : en_C l E M_X12_circle 1 0 0 [.ref 277, .int a0, .int a1, .int a2, .int a3] h (pF (some (.int (Int32.ofInt 0))) [277] h (fun h' => ob h' 277 = some (.inr (15, ((RB dg).set 0 (.int (Int32.ofInt 1))))) ∧ True)) := by
  refine en_mk m_X12_circle rfl hl (Nat.le_of_ble_eq_true rfl) ?_
  refine x_aload_n (M := M_X12_circle) dX12_circle_0 rfl ?_
  refine x_iconst (M := M_X12_circle) dX12_circle_1 ?_
  refine y_put (M := M_X12_circle) (ci := 15) (C := RX12) (T := TX12) (N := 135) (ty := tyX12) cl15 dX12_circle_2 o10921 0 (by decide) t_2391 (Or.inl rfl) (Nat.le_of_ble_eq_true rfl) rfl (fun h10922 w10923 f10924 => ?_)
  refine x_aload_n (M := M_X12_circle) dX12_circle_5 rfl ?_
  refine x_iload_n (M := M_X12_circle) dX12_circle_6 rfl ?_
  refine x_callSR (M := M_X12_circle) (M' := M_X12_isPoint) rfl rfl dX12_circle_7 m_X12_isPoint t_3154 t_3155 (q4351 hl c0 c1) rfl rfl (Nat.le_of_ble_eq_true rfl) (Nat.le_of_ble_eq_true rfl) (Nat.le_of_ble_eq_true rfl) (Nat.le_of_ble_eq_true rfl) ?_
  refine x_if_eq (M := M_X12_circle) (tgt := 35) dX12_circle_10 (by decide) (fun q => absurd q (by decide +kernel)) (fun _ => ?_)
  refine x_iload_n (M := M_X12_circle) dX12_circle_13 rfl ?_
  refine x_callSR (M := M_X12_circle) (M' := M_X12_isPoint) rfl rfl dX12_circle_14 m_X12_isPoint t_3154 t_3155 (q6574 hl c2 c3) rfl rfl (Nat.le_of_ble_eq_true rfl) (Nat.le_of_ble_eq_true rfl) (Nat.le_of_ble_eq_true rfl) (Nat.le_of_ble_eq_true rfl) ?_
  refine x_if_eq (M := M_X12_circle) (tgt := 35) dX12_circle_17 (by decide) (fun q => absurd q (by decide +kernel)) (fun _ => ?_)
  refine x_iload_n (M := M_X12_circle) dX12_circle_20 rfl ?_
  refine x_callSR (M := M_X12_circle) (M' := M_X12_isPoint) rfl rfl dX12_circle_21 m_X12_isPoint t_3154 t_3155 (q7466 hl c4 c5) rfl rfl (Nat.le_of_ble_eq_true rfl) (Nat.le_of_ble_eq_true rfl) (Nat.le_of_ble_eq_true rfl) (Nat.le_of_ble_eq_true rfl) ?_
  refine x_if_eq (M := M_X12_circle) (tgt := 35) dX12_circle_24 (by decide) (fun q => absurd q (by decide +kernel)) (fun _ => ?_)
  refine x_iload (M := M_X12_circle) dX12_circle_27 rfl ?_
  refine x_callSR (M := M_X12_circle) (M' := M_X12_isPoint) rfl rfl dX12_circle_29 m_X12_isPoint t_3154 t_3155 (q10925 hl c6 c7) rfl rfl (Nat.le_of_ble_eq_true rfl) (Nat.le_of_ble_eq_true rfl) (Nat.le_of_ble_eq_true rfl) (Nat.le_of_ble_eq_true rfl) ?_
  refine x_if_ne (M := M_X12_circle) (tgt := 39) dX12_circle_32 (by decide) (fun q => absurd q (by decide +kernel)) (fun _ => ?_)
  refine x_iconst (M := M_X12_circle) dX12_circle_35 ?_
  refine x_goto (M := M_X12_circle) (tgt := 40) dX12_circle_36 (by decide) ?_
  refine x_iconst (M := M_X12_circle) dX12_circle_40 ?_
  refine y_callVR (M := M_X12_circle) (M' := M_X12_fails) rfl rfl dX12_circle_41 m_X12_fails t_2805 t_2807 s_157 (q22 hl w10923) rfl rfl w10923 rfl (Nat.le_of_ble_eq_true rfl) (Nat.le_of_ble_eq_true rfl) (Nat.le_of_ble_eq_true rfl) (Nat.le_of_ble_eq_true rfl) (fun h10926 f10927 w10928 => ?_)
  obtain ⟨o10929, -⟩ := w10928
  refine x_if_eq (M := M_X12_circle) (tgt := 49) dX12_circle_44 (by decide) (fun q => absurd q (by decide +kernel)) (fun _ => ?_)
  refine x_iconst (M := M_X12_circle) dX12_circle_47 ?_
  exact x_iret (M := M_X12_circle) dX12_circle_48 rfl ⟨rfl, (fr_tr f10927 (by decide) (fr_tr f10924 (by decide) fr_rf)), ⟨o10929, trivial⟩⟩ (Nat.le_of_ble_eq_true rfl) (Nat.le_of_ble_eq_true rfl)
set_option maxRecDepth 10000 in
theorem lc31_5 {l : Launch} {E : EE} (hl : l.stackTraces = false) (nm : String) {xs : Nat → Int32} (hx : E.2.2.2.2 0 = some (7, xs)) {h : HP} {a0 : Int32} {a1 : Int32} {a2 : Int32} {a3 : Int32} {dg : Int32} (e2 : xs 2 = a0) (e3 : xs 3 = a1) (e4 : xs 4 = a2) (e5 : xs 5 = a3) (c0 : ¬ (a0.toInt < 0)) (c1 : a0.toInt < 32) (c2 : ¬ (a1.toInt < 0)) (c3 : a1.toInt < 32) (c4 : ¬ (a2.toInt < 0)) (c5 : a2.toInt < 32) (c6 : ¬ (a3.toInt < 0)) (c7 : ¬ (a3.toInt < 32)) (o10917 : ob h 32 = some (.inr (14, [.ref 33, .ref 162, .ref 166, .int (0 : Int32), .int (0 : Int32), .int (0 : Int32), .ref 167, .ref 170, .ref 173, .ref 177, .ref 193, .ref 208, .ref 222, .ref 238, .ref 252, .ref 274, .ref 275, .ref 276, .int (0 : Int32)]))) (o10931 : ob h 277 = some (.inr (15, (RB dg)))) : XX l E (M_law nm) 1312 342628 8074320 (fun o _ => o = .inl (some (.int 1))) 2357 [some (.ref 0), some (.ref 32), some (.ref 277), some (.ref 359), some (.int (Int32.ofInt 1)), none, none, none] [] h 328 2463747 := by
  refine x_aload_n (M := (M_law nm)) dL_law_2357 rfl ?_
  refine x_aload_n (M := (M_law nm)) dL_law_2358 rfl ?_
  refine x_iload (M := (M_law nm)) dL_law_2359 rfl ?_
  refine x_iconst (M := (M_law nm)) dL_law_2361 ?_
  refine x_iadd (M := (M_law nm)) dL_law_2362 ?_
  refine x_sald (M := (M_law nm)) dL_law_2363 (by decide) hx (vp_inD (by decide +kernel)) ?_
  refine x_top (M := (M_law nm)) (y := a0) ((congrArg xs (by decide +kernel : ((Int32.ofInt 1) + (Int32.ofInt 1)).toNatClampNeg = 2)).trans e2) ?_
  refine x_aload_n (M := (M_law nm)) dL_law_2364 rfl ?_
  refine x_iload (M := (M_law nm)) dL_law_2365 rfl ?_
  refine x_iconst (M := (M_law nm)) dL_law_2367 ?_
  refine x_iadd (M := (M_law nm)) dL_law_2368 ?_
  refine x_sald (M := (M_law nm)) dL_law_2369 (by decide) hx (vp_inD (by decide +kernel)) ?_
  refine x_top (M := (M_law nm)) (y := a1) ((congrArg xs (by decide +kernel : ((Int32.ofInt 1) + (Int32.ofInt 2)).toNatClampNeg = 3)).trans e3) ?_
  refine x_aload_n (M := (M_law nm)) dL_law_2370 rfl ?_
  refine x_iload (M := (M_law nm)) dL_law_2371 rfl ?_
  refine x_iconst (M := (M_law nm)) dL_law_2373 ?_
  refine x_iadd (M := (M_law nm)) dL_law_2374 ?_
  refine x_sald (M := (M_law nm)) dL_law_2375 (by decide) hx (vp_inD (by decide +kernel)) ?_
  refine x_top (M := (M_law nm)) (y := a2) ((congrArg xs (by decide +kernel : ((Int32.ofInt 1) + (Int32.ofInt 3)).toNatClampNeg = 4)).trans e4) ?_
  refine x_aload_n (M := (M_law nm)) dL_law_2376 rfl ?_
  refine x_iload (M := (M_law nm)) dL_law_2377 rfl ?_
  refine x_iconst (M := (M_law nm)) dL_law_2379 ?_
  refine x_iadd (M := (M_law nm)) dL_law_2380 ?_
  refine x_sald (M := (M_law nm)) dL_law_2381 (by decide) hx (vp_inD (by decide +kernel)) ?_
  refine x_top (M := (M_law nm)) (y := a3) ((congrArg xs (by decide +kernel : ((Int32.ofInt 1) + (Int32.ofInt 4)).toNatClampNeg = 5)).trans e5) ?_
  refine x_aload_n (M := (M_law nm)) dL_law_2382 rfl ?_
  refine y_callSW (M := (M_law nm)) (M' := M_L_circle) rfl rfl dL_law_2383 m_L_circle t_2364 t_2365 (q10916 hl c0 c1 c2 c3 c4 c5 c6 c7 o10917) rfl rfl (Nat.le_of_ble_eq_true rfl) (Nat.le_of_ble_eq_true rfl) (Nat.le_of_ble_eq_true rfl) (Nat.le_of_ble_eq_true rfl) (fun h10918 f10919 w10920 => ?_)
  refine x_istore (M := (M_law nm)) dL_law_2386 (Nat.le_of_ble_eq_true rfl) rfl ?_
  refine x_aload_n (M := (M_law nm)) dL_law_2388 rfl ?_
  refine x_aload_n (M := (M_law nm)) dL_law_2389 rfl ?_
  refine x_iload (M := (M_law nm)) dL_law_2390 rfl ?_
  refine x_iconst (M := (M_law nm)) dL_law_2392 ?_
  refine x_iadd (M := (M_law nm)) dL_law_2393 ?_
  refine x_sald (M := (M_law nm)) dL_law_2394 (by decide) hx (vp_inD (by decide +kernel)) ?_
  refine x_top (M := (M_law nm)) (y := a0) ((congrArg xs (by decide +kernel : ((Int32.ofInt 1) + (Int32.ofInt 1)).toNatClampNeg = 2)).trans e2) ?_
  refine x_aload_n (M := (M_law nm)) dL_law_2395 rfl ?_
  refine x_iload (M := (M_law nm)) dL_law_2396 rfl ?_
  refine x_iconst (M := (M_law nm)) dL_law_2398 ?_
  refine x_iadd (M := (M_law nm)) dL_law_2399 ?_
  refine x_sald (M := (M_law nm)) dL_law_2400 (by decide) hx (vp_inD (by decide +kernel)) ?_
  refine x_top (M := (M_law nm)) (y := a1) ((congrArg xs (by decide +kernel : ((Int32.ofInt 1) + (Int32.ofInt 2)).toNatClampNeg = 3)).trans e3) ?_
  refine x_aload_n (M := (M_law nm)) dL_law_2401 rfl ?_
  refine x_iload (M := (M_law nm)) dL_law_2402 rfl ?_
  refine x_iconst (M := (M_law nm)) dL_law_2404 ?_
  refine x_iadd (M := (M_law nm)) dL_law_2405 ?_
  refine x_sald (M := (M_law nm)) dL_law_2406 (by decide) hx (vp_inD (by decide +kernel)) ?_
  refine x_top (M := (M_law nm)) (y := a2) ((congrArg xs (by decide +kernel : ((Int32.ofInt 1) + (Int32.ofInt 3)).toNatClampNeg = 4)).trans e4) ?_
  refine x_aload_n (M := (M_law nm)) dL_law_2407 rfl ?_
  refine x_iload (M := (M_law nm)) dL_law_2408 rfl ?_
  refine x_iconst (M := (M_law nm)) dL_law_2410 ?_
  refine x_iadd (M := (M_law nm)) dL_law_2411 ?_
  refine x_sald (M := (M_law nm)) dL_law_2412 (by decide) hx (vp_inD (by decide +kernel)) ?_
  refine x_top (M := (M_law nm)) (y := a3) ((congrArg xs (by decide +kernel : ((Int32.ofInt 1) + (Int32.ofInt 4)).toNatClampNeg = 5)).trans e5) ?_
  have o10932 := (f10919 277 _ (by decide) o10931)
  refine y_callVR (M := (M_law nm)) (M' := M_X12_circle) rfl rfl dL_law_2413 m_X12_circle t_3198 t_3199 t_3200 (q10930 hl c0 c1 c2 c3 c4 c5 c6 c7 o10932) rfl rfl o10932 rfl (Nat.le_of_ble_eq_true rfl) (Nat.le_of_ble_eq_true rfl) (Nat.le_of_ble_eq_true rfl) (Nat.le_of_ble_eq_true rfl) (fun h10933 f10934 w10935 => ?_)
  obtain ⟨o10936, -⟩ := w10935
  refine x_istore (M := (M_law nm)) dL_law_2416 (Nat.le_of_ble_eq_true rfl) rfl ?_
  refine x_aload_n (M := (M_law nm)) dL_law_2418 rfl ?_
  refine x_callVR (M := (M_law nm)) (M' := M_X12_thrown) rfl rfl dL_law_2419 m_X12_thrown t_2797 t_2798 t_2799 (q35 hl o10936) rfl rfl o10936 rfl (Nat.le_of_ble_eq_true rfl) (Nat.le_of_ble_eq_true rfl) (Nat.le_of_ble_eq_true rfl) (Nat.le_of_ble_eq_true rfl) ?_
  refine x_iload (M := (M_law nm)) dL_law_2422 rfl ?_
  refine x_icmp_eq (M := (M_law nm)) (tgt := 2429) dL_law_2424 (by decide) (fun _ => ?_) (fun q => absurd q (by decide +kernel))
  refine x_iload (M := (M_law nm)) dL_law_2429 rfl ?_
  refine x_if_ne (M := (M_law nm)) (tgt := 2446) dL_law_2431 (by decide) (fun _ => ?_) (fun q => absurd q (by decide +kernel))
  refine x_goto (M := (M_law nm)) (tgt := 2449) dL_law_2446 (by decide) ?_
  refine x_iinc (M := (M_law nm)) dL_law_2449 rfl (Nat.le_of_ble_eq_true rfl) rfl ?_
  refine x_lvs (M := (M_law nm)) (lv' := [some (.ref 0), some (.ref 32), some (.ref 277), some (.ref 359), some (.int (Int32.ofInt 7)), some (.int (Int32.ofInt 1)), some (.int (Int32.ofInt 0)), none]) (by rw [(by decide +kernel : (Int32.ofInt 1) + Int32.ofInt 6 = (Int32.ofInt 7))] <;> rfl) ?_
  refine x_goto (M := (M_law nm)) (tgt := 33) dL_law_2452 (by decide) ?_
  refine x_iload (M := (M_law nm)) dL_law_33 rfl ?_
  refine x_aload_n (M := (M_law nm)) dL_law_35 rfl ?_
  refine x_slen (M := (M_law nm)) dL_law_36 (by decide) hx ?_
  refine x_bipush (M := (M_law nm)) dL_law_37 ?_
  refine x_isub (M := (M_law nm)) dL_law_39 ?_
  refine x_icmp_gt (M := (M_law nm)) (tgt := 2455) dL_law_40 (by decide) (fun _ => ?_) (fun q => absurd q (by decide +kernel))
  refine x_iconst (M := (M_law nm)) dL_law_2455 ?_
  exact x_zret (M := (M_law nm)) dL_law_2456 rfl (by decide) rfl (Nat.le_of_ble_eq_true rfl) (Nat.le_of_ble_eq_true rfl)
set_option maxRecDepth 10000 in
theorem q10938 {l : Launch} {E : EE} (hl : l.stackTraces = false) {h : HP} {a0 : Int32} {a1 : Int32} {a2 : Int32} {a3 : Int32} (c0 : ¬ (a0.toInt < 0)) (c1 : a0.toInt < 32) (c2 : ¬ (a1.toInt < 0)) (c3 : a1.toInt < 32) (c4 : ¬ (a2.toInt < 0)) (c5 : ¬ (a2.toInt < 32)) : en_C l E M_X11_circle 6 1 6 [.ref 32, .int a0, .int a1, .int a2, .int a3] h (pT "java/lang/IndexOutOfBoundsException" [] h (fun _ => True)) := by
  refine en_mk m_X11_circle rfl hl (Nat.le_of_ble_eq_true rfl) ?_
  refine x_iload_n (M := M_X11_circle) dX11_circle_0 rfl ?_
  refine x_callSR (M := M_X11_circle) (M' := M_X11_isNoSignPoint) rfl rfl dX11_circle_1 m_X11_isNoSignPoint t_2309 t_2310 (q4334 hl c0 c1) rfl rfl (Nat.le_of_ble_eq_true rfl) (Nat.le_of_ble_eq_true rfl) (Nat.le_of_ble_eq_true rfl) (Nat.le_of_ble_eq_true rfl) ?_
  refine x_if_ne (M := M_X11_circle) (tgt := 29) dX11_circle_4 (by decide) (fun q => absurd q (by decide +kernel)) (fun _ => ?_)
  refine x_iload_n (M := M_X11_circle) dX11_circle_7 rfl ?_
  refine x_callSR (M := M_X11_circle) (M' := M_X11_isNoSignPoint) rfl rfl dX11_circle_8 m_X11_isNoSignPoint t_2309 t_2310 (q6557 hl c2 c3) rfl rfl (Nat.le_of_ble_eq_true rfl) (Nat.le_of_ble_eq_true rfl) (Nat.le_of_ble_eq_true rfl) (Nat.le_of_ble_eq_true rfl) ?_
  refine x_if_ne (M := M_X11_circle) (tgt := 29) dX11_circle_11 (by decide) (fun q => absurd q (by decide +kernel)) (fun _ => ?_)
  refine x_iload_n (M := M_X11_circle) dX11_circle_14 rfl ?_
  refine x_callSR (M := M_X11_circle) (M' := M_X11_isNoSignPoint) rfl rfl dX11_circle_15 m_X11_isNoSignPoint t_2309 t_2310 (q8137 hl c4 c5) rfl rfl (Nat.le_of_ble_eq_true rfl) (Nat.le_of_ble_eq_true rfl) (Nat.le_of_ble_eq_true rfl) (Nat.le_of_ble_eq_true rfl) ?_
  refine x_if_ne (M := M_X11_circle) (tgt := 29) dX11_circle_18 (by decide) (fun _ => ?_) (fun q => absurd q (by decide +kernel))
  exact x_throw (M := M_X11_circle) (names := en_nm) rfl dX11_circle_29 dX11_circle_32 dX11_circle_33 dX11_circle_36 (by decide +kernel) en_nm_ok (Or.inl t_748) (Or.inl t_22) (at_X11_IndexOutOfBoundsException_139) (Nat.le_of_ble_eq_true rfl) (Nat.le_of_ble_eq_true rfl) (Nat.le_of_ble_eq_true rfl) (Nat.le_of_ble_eq_true rfl) (fun n9 => ⟨rfl, (fr_tr (fr_app (List.replicate n9 none)) (fun _ h => nomatch h) fr_rf), trivial⟩)
set_option maxRecDepth 10000 in
theorem q10943 {l : Launch} {E : EE} (hl : l.stackTraces = false) {h : HP} {a0 : Int32} {a1 : Int32} {a2 : Int32} {a3 : Int32} (c0 : ¬ (a0.toInt < 0)) (c1 : a0.toInt < 32) (c2 : ¬ (a1.toInt < 0)) (c3 : a1.toInt < 32) (c4 : ¬ (a2.toInt < 0)) (c5 : ¬ (a2.toInt < 32)) (o10939 : ob h 32 = some (.inr (14, [.ref 33, .ref 162, .ref 166, .int (0 : Int32), .int (0 : Int32), .int (0 : Int32), .ref 167, .ref 170, .ref 173, .ref 177, .ref 193, .ref 208, .ref 222, .ref 238, .ref 252, .ref 274, .ref 275, .ref 276, .int (0 : Int32)]))) : en_C l E M_L_circle 7 1 6 [.ref 32, .int a0, .int a1, .int a2, .int a3, .ref 359] h (pF (some (.int (Int32.ofInt 1))) [] h (fun _ => True)) := by
  refine en_mkW m_L_circle rfl hl (Nat.le_of_ble_eq_true rfl) ?_
  refine x_aload (M := M_L_circle) dL_circle_0 rfl ?_
  refine x_iconst (M := M_L_circle) dL_circle_2 ?_
  refine x_aload_n (M := M_L_circle) dL_circle_3 rfl ?_
  refine x_iload_n (M := M_L_circle) dL_circle_4 rfl ?_
  refine x_iload_n (M := M_L_circle) dL_circle_5 rfl ?_
  refine x_iload_n (M := M_L_circle) dL_circle_6 rfl ?_
  refine x_iload (M := M_L_circle) dL_circle_7 rfl ?_
  refine y_callVHX (M := M_L_circle) (M' := M_X11_circle) (i9 := 6) (nx := 19) rfl dL_circle_9 m_X11_circle t_2367 t_2368 t_2369 o10939 rfl (q10938 hl c0 c1 c2 c3 c4 c5) rfl rfl (Nat.le_of_ble_eq_true rfl) (Nat.le_of_ble_eq_true rfl) (Nat.le_of_ble_eq_true rfl) (Nat.le_of_ble_eq_true rfl) (en_hdm (k0 := 6) [] [] rfl (fun _ h => nomatch h) (by decide +kernel) (by decide) t_739 n_750 dL_circle_17) (by decide) rfl (fun h10940 f10941 w10942 => ?_)
  refine x_iconst (M := M_L_circle) dL_circle_19 ?_
  exact x_iret (M := M_L_circle) dL_circle_20 rfl ⟨rfl, (fr_tr f10941 (fun _ h => nomatch h) fr_rf), trivial⟩ (Nat.le_of_ble_eq_true rfl) (Nat.le_of_ble_eq_true rfl)
set_option maxRecDepth 10000 in
theorem q10956 {l : Launch} {E : EE} (hl : l.stackTraces = false) {h : HP} {a0 : Int32} {a1 : Int32} {a2 : Int32} {a3 : Int32} {dg : Int32} (c0 : ¬ (a0.toInt < 0)) (c1 : a0.toInt < 32) (c2 : ¬ (a1.toInt < 0)) (c3 : a1.toInt < 32) (c4 : ¬ (a2.toInt < 0)) (c5 : ¬ (a2.toInt < 32)) (o10948 : ob h 277 = some (.inr (15, (RB dg)))) : en_C l E M_X12_circle 1 0 0 [.ref 277, .int a0, .int a1, .int a2, .int a3] h (pF (some (.int (Int32.ofInt 0))) [277] h (fun h' => ob h' 277 = some (.inr (15, ((RB dg).set 0 (.int (Int32.ofInt 1))))) ∧ True)) := by
  refine en_mk m_X12_circle rfl hl (Nat.le_of_ble_eq_true rfl) ?_
  refine x_aload_n (M := M_X12_circle) dX12_circle_0 rfl ?_
  refine x_iconst (M := M_X12_circle) dX12_circle_1 ?_
  refine y_put (M := M_X12_circle) (ci := 15) (C := RX12) (T := TX12) (N := 135) (ty := tyX12) cl15 dX12_circle_2 o10948 0 (by decide) t_2391 (Or.inl rfl) (Nat.le_of_ble_eq_true rfl) rfl (fun h10949 w10950 f10951 => ?_)
  refine x_aload_n (M := M_X12_circle) dX12_circle_5 rfl ?_
  refine x_iload_n (M := M_X12_circle) dX12_circle_6 rfl ?_
  refine x_callSR (M := M_X12_circle) (M' := M_X12_isPoint) rfl rfl dX12_circle_7 m_X12_isPoint t_3154 t_3155 (q4351 hl c0 c1) rfl rfl (Nat.le_of_ble_eq_true rfl) (Nat.le_of_ble_eq_true rfl) (Nat.le_of_ble_eq_true rfl) (Nat.le_of_ble_eq_true rfl) ?_
  refine x_if_eq (M := M_X12_circle) (tgt := 35) dX12_circle_10 (by decide) (fun q => absurd q (by decide +kernel)) (fun _ => ?_)
  refine x_iload_n (M := M_X12_circle) dX12_circle_13 rfl ?_
  refine x_callSR (M := M_X12_circle) (M' := M_X12_isPoint) rfl rfl dX12_circle_14 m_X12_isPoint t_3154 t_3155 (q6574 hl c2 c3) rfl rfl (Nat.le_of_ble_eq_true rfl) (Nat.le_of_ble_eq_true rfl) (Nat.le_of_ble_eq_true rfl) (Nat.le_of_ble_eq_true rfl) ?_
  refine x_if_eq (M := M_X12_circle) (tgt := 35) dX12_circle_17 (by decide) (fun q => absurd q (by decide +kernel)) (fun _ => ?_)
  refine x_iload_n (M := M_X12_circle) dX12_circle_20 rfl ?_
  refine x_callSR (M := M_X12_circle) (M' := M_X12_isPoint) rfl rfl dX12_circle_21 m_X12_isPoint t_3154 t_3155 (q8153 hl c4 c5) rfl rfl (Nat.le_of_ble_eq_true rfl) (Nat.le_of_ble_eq_true rfl) (Nat.le_of_ble_eq_true rfl) (Nat.le_of_ble_eq_true rfl) ?_
  refine x_if_eq (M := M_X12_circle) (tgt := 35) dX12_circle_24 (by decide) (fun _ => ?_) (fun q => absurd q (by decide +kernel))
  refine x_iconst (M := M_X12_circle) dX12_circle_35 ?_
  refine x_goto (M := M_X12_circle) (tgt := 40) dX12_circle_36 (by decide) ?_
  refine x_iconst (M := M_X12_circle) dX12_circle_40 ?_
  refine y_callVR (M := M_X12_circle) (M' := M_X12_fails) rfl rfl dX12_circle_41 m_X12_fails t_2805 t_2807 s_157 (q22 hl w10950) rfl rfl w10950 rfl (Nat.le_of_ble_eq_true rfl) (Nat.le_of_ble_eq_true rfl) (Nat.le_of_ble_eq_true rfl) (Nat.le_of_ble_eq_true rfl) (fun h10952 f10953 w10954 => ?_)
  obtain ⟨o10955, -⟩ := w10954
  refine x_if_eq (M := M_X12_circle) (tgt := 49) dX12_circle_44 (by decide) (fun q => absurd q (by decide +kernel)) (fun _ => ?_)
  refine x_iconst (M := M_X12_circle) dX12_circle_47 ?_
  exact x_iret (M := M_X12_circle) dX12_circle_48 rfl ⟨rfl, (fr_tr f10953 (by decide) (fr_tr f10951 (by decide) fr_rf)), ⟨o10955, trivial⟩⟩ (Nat.le_of_ble_eq_true rfl) (Nat.le_of_ble_eq_true rfl)
set_option maxRecDepth 10000 in
theorem lc31_6 {l : Launch} {E : EE} (hl : l.stackTraces = false) (nm : String) {xs : Nat → Int32} (hx : E.2.2.2.2 0 = some (7, xs)) {h : HP} {a0 : Int32} {a1 : Int32} {a2 : Int32} {a3 : Int32} {dg : Int32} (e2 : xs 2 = a0) (e3 : xs 3 = a1) (e4 : xs 4 = a2) (e5 : xs 5 = a3) (c0 : ¬ (a0.toInt < 0)) (c1 : a0.toInt < 32) (c2 : ¬ (a1.toInt < 0)) (c3 : a1.toInt < 32) (c4 : ¬ (a2.toInt < 0)) (c5 : ¬ (a2.toInt < 32)) (o10944 : ob h 32 = some (.inr (14, [.ref 33, .ref 162, .ref 166, .int (0 : Int32), .int (0 : Int32), .int (0 : Int32), .ref 167, .ref 170, .ref 173, .ref 177, .ref 193, .ref 208, .ref 222, .ref 238, .ref 252, .ref 274, .ref 275, .ref 276, .int (0 : Int32)]))) (o10957 : ob h 277 = some (.inr (15, (RB dg)))) : XX l E (M_law nm) 1312 342628 8074320 (fun o _ => o = .inl (some (.int 1))) 2357 [some (.ref 0), some (.ref 32), some (.ref 277), some (.ref 359), some (.int (Int32.ofInt 1)), none, none, none] [] h 328 2463747 := by
  refine x_aload_n (M := (M_law nm)) dL_law_2357 rfl ?_
  refine x_aload_n (M := (M_law nm)) dL_law_2358 rfl ?_
  refine x_iload (M := (M_law nm)) dL_law_2359 rfl ?_
  refine x_iconst (M := (M_law nm)) dL_law_2361 ?_
  refine x_iadd (M := (M_law nm)) dL_law_2362 ?_
  refine x_sald (M := (M_law nm)) dL_law_2363 (by decide) hx (vp_inD (by decide +kernel)) ?_
  refine x_top (M := (M_law nm)) (y := a0) ((congrArg xs (by decide +kernel : ((Int32.ofInt 1) + (Int32.ofInt 1)).toNatClampNeg = 2)).trans e2) ?_
  refine x_aload_n (M := (M_law nm)) dL_law_2364 rfl ?_
  refine x_iload (M := (M_law nm)) dL_law_2365 rfl ?_
  refine x_iconst (M := (M_law nm)) dL_law_2367 ?_
  refine x_iadd (M := (M_law nm)) dL_law_2368 ?_
  refine x_sald (M := (M_law nm)) dL_law_2369 (by decide) hx (vp_inD (by decide +kernel)) ?_
  refine x_top (M := (M_law nm)) (y := a1) ((congrArg xs (by decide +kernel : ((Int32.ofInt 1) + (Int32.ofInt 2)).toNatClampNeg = 3)).trans e3) ?_
  refine x_aload_n (M := (M_law nm)) dL_law_2370 rfl ?_
  refine x_iload (M := (M_law nm)) dL_law_2371 rfl ?_
  refine x_iconst (M := (M_law nm)) dL_law_2373 ?_
  refine x_iadd (M := (M_law nm)) dL_law_2374 ?_
  refine x_sald (M := (M_law nm)) dL_law_2375 (by decide) hx (vp_inD (by decide +kernel)) ?_
  refine x_top (M := (M_law nm)) (y := a2) ((congrArg xs (by decide +kernel : ((Int32.ofInt 1) + (Int32.ofInt 3)).toNatClampNeg = 4)).trans e4) ?_
  refine x_aload_n (M := (M_law nm)) dL_law_2376 rfl ?_
  refine x_iload (M := (M_law nm)) dL_law_2377 rfl ?_
  refine x_iconst (M := (M_law nm)) dL_law_2379 ?_
  refine x_iadd (M := (M_law nm)) dL_law_2380 ?_
  refine x_sald (M := (M_law nm)) dL_law_2381 (by decide) hx (vp_inD (by decide +kernel)) ?_
  refine x_top (M := (M_law nm)) (y := a3) ((congrArg xs (by decide +kernel : ((Int32.ofInt 1) + (Int32.ofInt 4)).toNatClampNeg = 5)).trans e5) ?_
  refine x_aload_n (M := (M_law nm)) dL_law_2382 rfl ?_
  refine y_callSW (M := (M_law nm)) (M' := M_L_circle) rfl rfl dL_law_2383 m_L_circle t_2364 t_2365 (q10943 hl c0 c1 c2 c3 c4 c5 o10944) rfl rfl (Nat.le_of_ble_eq_true rfl) (Nat.le_of_ble_eq_true rfl) (Nat.le_of_ble_eq_true rfl) (Nat.le_of_ble_eq_true rfl) (fun h10945 f10946 w10947 => ?_)
  refine x_istore (M := (M_law nm)) dL_law_2386 (Nat.le_of_ble_eq_true rfl) rfl ?_
  refine x_aload_n (M := (M_law nm)) dL_law_2388 rfl ?_
  refine x_aload_n (M := (M_law nm)) dL_law_2389 rfl ?_
  refine x_iload (M := (M_law nm)) dL_law_2390 rfl ?_
  refine x_iconst (M := (M_law nm)) dL_law_2392 ?_
  refine x_iadd (M := (M_law nm)) dL_law_2393 ?_
  refine x_sald (M := (M_law nm)) dL_law_2394 (by decide) hx (vp_inD (by decide +kernel)) ?_
  refine x_top (M := (M_law nm)) (y := a0) ((congrArg xs (by decide +kernel : ((Int32.ofInt 1) + (Int32.ofInt 1)).toNatClampNeg = 2)).trans e2) ?_
  refine x_aload_n (M := (M_law nm)) dL_law_2395 rfl ?_
  refine x_iload (M := (M_law nm)) dL_law_2396 rfl ?_
  refine x_iconst (M := (M_law nm)) dL_law_2398 ?_
  refine x_iadd (M := (M_law nm)) dL_law_2399 ?_
  refine x_sald (M := (M_law nm)) dL_law_2400 (by decide) hx (vp_inD (by decide +kernel)) ?_
  refine x_top (M := (M_law nm)) (y := a1) ((congrArg xs (by decide +kernel : ((Int32.ofInt 1) + (Int32.ofInt 2)).toNatClampNeg = 3)).trans e3) ?_
  refine x_aload_n (M := (M_law nm)) dL_law_2401 rfl ?_
  refine x_iload (M := (M_law nm)) dL_law_2402 rfl ?_
  refine x_iconst (M := (M_law nm)) dL_law_2404 ?_
  refine x_iadd (M := (M_law nm)) dL_law_2405 ?_
  refine x_sald (M := (M_law nm)) dL_law_2406 (by decide) hx (vp_inD (by decide +kernel)) ?_
  refine x_top (M := (M_law nm)) (y := a2) ((congrArg xs (by decide +kernel : ((Int32.ofInt 1) + (Int32.ofInt 3)).toNatClampNeg = 4)).trans e4) ?_
  refine x_aload_n (M := (M_law nm)) dL_law_2407 rfl ?_
  refine x_iload (M := (M_law nm)) dL_law_2408 rfl ?_
  refine x_iconst (M := (M_law nm)) dL_law_2410 ?_
  refine x_iadd (M := (M_law nm)) dL_law_2411 ?_
  refine x_sald (M := (M_law nm)) dL_law_2412 (by decide) hx (vp_inD (by decide +kernel)) ?_
  refine x_top (M := (M_law nm)) (y := a3) ((congrArg xs (by decide +kernel : ((Int32.ofInt 1) + (Int32.ofInt 4)).toNatClampNeg = 5)).trans e5) ?_
  have o10958 := (f10946 277 _ (by decide) o10957)
  refine y_callVR (M := (M_law nm)) (M' := M_X12_circle) rfl rfl dL_law_2413 m_X12_circle t_3198 t_3199 t_3200 (q10956 hl c0 c1 c2 c3 c4 c5 o10958) rfl rfl o10958 rfl (Nat.le_of_ble_eq_true rfl) (Nat.le_of_ble_eq_true rfl) (Nat.le_of_ble_eq_true rfl) (Nat.le_of_ble_eq_true rfl) (fun h10959 f10960 w10961 => ?_)
  obtain ⟨o10962, -⟩ := w10961
  refine x_istore (M := (M_law nm)) dL_law_2416 (Nat.le_of_ble_eq_true rfl) rfl ?_
  refine x_aload_n (M := (M_law nm)) dL_law_2418 rfl ?_
  refine x_callVR (M := (M_law nm)) (M' := M_X12_thrown) rfl rfl dL_law_2419 m_X12_thrown t_2797 t_2798 t_2799 (q35 hl o10962) rfl rfl o10962 rfl (Nat.le_of_ble_eq_true rfl) (Nat.le_of_ble_eq_true rfl) (Nat.le_of_ble_eq_true rfl) (Nat.le_of_ble_eq_true rfl) ?_
  refine x_iload (M := (M_law nm)) dL_law_2422 rfl ?_
  refine x_icmp_eq (M := (M_law nm)) (tgt := 2429) dL_law_2424 (by decide) (fun _ => ?_) (fun q => absurd q (by decide +kernel))
  refine x_iload (M := (M_law nm)) dL_law_2429 rfl ?_
  refine x_if_ne (M := (M_law nm)) (tgt := 2446) dL_law_2431 (by decide) (fun _ => ?_) (fun q => absurd q (by decide +kernel))
  refine x_goto (M := (M_law nm)) (tgt := 2449) dL_law_2446 (by decide) ?_
  refine x_iinc (M := (M_law nm)) dL_law_2449 rfl (Nat.le_of_ble_eq_true rfl) rfl ?_
  refine x_lvs (M := (M_law nm)) (lv' := [some (.ref 0), some (.ref 32), some (.ref 277), some (.ref 359), some (.int (Int32.ofInt 7)), some (.int (Int32.ofInt 1)), some (.int (Int32.ofInt 0)), none]) (by rw [(by decide +kernel : (Int32.ofInt 1) + Int32.ofInt 6 = (Int32.ofInt 7))] <;> rfl) ?_
  refine x_goto (M := (M_law nm)) (tgt := 33) dL_law_2452 (by decide) ?_
  refine x_iload (M := (M_law nm)) dL_law_33 rfl ?_
  refine x_aload_n (M := (M_law nm)) dL_law_35 rfl ?_
  refine x_slen (M := (M_law nm)) dL_law_36 (by decide) hx ?_
  refine x_bipush (M := (M_law nm)) dL_law_37 ?_
  refine x_isub (M := (M_law nm)) dL_law_39 ?_
  refine x_icmp_gt (M := (M_law nm)) (tgt := 2455) dL_law_40 (by decide) (fun _ => ?_) (fun q => absurd q (by decide +kernel))
  refine x_iconst (M := (M_law nm)) dL_law_2455 ?_
  exact x_zret (M := (M_law nm)) dL_law_2456 rfl (by decide) rfl (Nat.le_of_ble_eq_true rfl) (Nat.le_of_ble_eq_true rfl)
set_option maxRecDepth 10000 in
theorem q10964 {l : Launch} {E : EE} (hl : l.stackTraces = false) {h : HP} {a0 : Int32} {a1 : Int32} {a2 : Int32} {a3 : Int32} (c0 : ¬ (a0.toInt < 0)) (c1 : a0.toInt < 32) (c2 : ¬ (a1.toInt < 0)) (c3 : ¬ (a1.toInt < 32)) : en_C l E M_X11_circle 6 1 6 [.ref 32, .int a0, .int a1, .int a2, .int a3] h (pT "java/lang/IndexOutOfBoundsException" [] h (fun _ => True)) := by
  refine en_mk m_X11_circle rfl hl (Nat.le_of_ble_eq_true rfl) ?_
  refine x_iload_n (M := M_X11_circle) dX11_circle_0 rfl ?_
  refine x_callSR (M := M_X11_circle) (M' := M_X11_isNoSignPoint) rfl rfl dX11_circle_1 m_X11_isNoSignPoint t_2309 t_2310 (q4334 hl c0 c1) rfl rfl (Nat.le_of_ble_eq_true rfl) (Nat.le_of_ble_eq_true rfl) (Nat.le_of_ble_eq_true rfl) (Nat.le_of_ble_eq_true rfl) ?_
  refine x_if_ne (M := M_X11_circle) (tgt := 29) dX11_circle_4 (by decide) (fun q => absurd q (by decide +kernel)) (fun _ => ?_)
  refine x_iload_n (M := M_X11_circle) dX11_circle_7 rfl ?_
  refine x_callSR (M := M_X11_circle) (M' := M_X11_isNoSignPoint) rfl rfl dX11_circle_8 m_X11_isNoSignPoint t_2309 t_2310 (q8165 hl c2 c3) rfl rfl (Nat.le_of_ble_eq_true rfl) (Nat.le_of_ble_eq_true rfl) (Nat.le_of_ble_eq_true rfl) (Nat.le_of_ble_eq_true rfl) ?_
  refine x_if_ne (M := M_X11_circle) (tgt := 29) dX11_circle_11 (by decide) (fun _ => ?_) (fun q => absurd q (by decide +kernel))
  exact x_throw (M := M_X11_circle) (names := en_nm) rfl dX11_circle_29 dX11_circle_32 dX11_circle_33 dX11_circle_36 (by decide +kernel) en_nm_ok (Or.inl t_748) (Or.inl t_22) (at_X11_IndexOutOfBoundsException_139) (Nat.le_of_ble_eq_true rfl) (Nat.le_of_ble_eq_true rfl) (Nat.le_of_ble_eq_true rfl) (Nat.le_of_ble_eq_true rfl) (fun n9 => ⟨rfl, (fr_tr (fr_app (List.replicate n9 none)) (fun _ h => nomatch h) fr_rf), trivial⟩)
set_option maxRecDepth 10000 in
theorem q10969 {l : Launch} {E : EE} (hl : l.stackTraces = false) {h : HP} {a0 : Int32} {a1 : Int32} {a2 : Int32} {a3 : Int32} (c0 : ¬ (a0.toInt < 0)) (c1 : a0.toInt < 32) (c2 : ¬ (a1.toInt < 0)) (c3 : ¬ (a1.toInt < 32)) (o10965 : ob h 32 = some (.inr (14, [.ref 33, .ref 162, .ref 166, .int (0 : Int32), .int (0 : Int32), .int (0 : Int32), .ref 167, .ref 170, .ref 173, .ref 177, .ref 193, .ref 208, .ref 222, .ref 238, .ref 252, .ref 274, .ref 275, .ref 276, .int (0 : Int32)]))) : en_C l E M_L_circle 7 1 6 [.ref 32, .int a0, .int a1, .int a2, .int a3, .ref 359] h (pF (some (.int (Int32.ofInt 1))) [] h (fun _ => True)) := by
  refine en_mkW m_L_circle rfl hl (Nat.le_of_ble_eq_true rfl) ?_
  refine x_aload (M := M_L_circle) dL_circle_0 rfl ?_
  refine x_iconst (M := M_L_circle) dL_circle_2 ?_
  refine x_aload_n (M := M_L_circle) dL_circle_3 rfl ?_
  refine x_iload_n (M := M_L_circle) dL_circle_4 rfl ?_
  refine x_iload_n (M := M_L_circle) dL_circle_5 rfl ?_
  refine x_iload_n (M := M_L_circle) dL_circle_6 rfl ?_
  refine x_iload (M := M_L_circle) dL_circle_7 rfl ?_
  refine y_callVHX (M := M_L_circle) (M' := M_X11_circle) (i9 := 6) (nx := 19) rfl dL_circle_9 m_X11_circle t_2367 t_2368 t_2369 o10965 rfl (q10964 hl c0 c1 c2 c3) rfl rfl (Nat.le_of_ble_eq_true rfl) (Nat.le_of_ble_eq_true rfl) (Nat.le_of_ble_eq_true rfl) (Nat.le_of_ble_eq_true rfl) (en_hdm (k0 := 6) [] [] rfl (fun _ h => nomatch h) (by decide +kernel) (by decide) t_739 n_750 dL_circle_17) (by decide) rfl (fun h10966 f10967 w10968 => ?_)
  refine x_iconst (M := M_L_circle) dL_circle_19 ?_
  exact x_iret (M := M_L_circle) dL_circle_20 rfl ⟨rfl, (fr_tr f10967 (fun _ h => nomatch h) fr_rf), trivial⟩ (Nat.le_of_ble_eq_true rfl) (Nat.le_of_ble_eq_true rfl)
set_option maxRecDepth 10000 in
theorem q10982 {l : Launch} {E : EE} (hl : l.stackTraces = false) {h : HP} {a0 : Int32} {a1 : Int32} {a2 : Int32} {a3 : Int32} {dg : Int32} (c0 : ¬ (a0.toInt < 0)) (c1 : a0.toInt < 32) (c2 : ¬ (a1.toInt < 0)) (c3 : ¬ (a1.toInt < 32)) (o10974 : ob h 277 = some (.inr (15, (RB dg)))) : en_C l E M_X12_circle 1 0 0 [.ref 277, .int a0, .int a1, .int a2, .int a3] h (pF (some (.int (Int32.ofInt 0))) [277] h (fun h' => ob h' 277 = some (.inr (15, ((RB dg).set 0 (.int (Int32.ofInt 1))))) ∧ True)) := by
  refine en_mk m_X12_circle rfl hl (Nat.le_of_ble_eq_true rfl) ?_
  refine x_aload_n (M := M_X12_circle) dX12_circle_0 rfl ?_
  refine x_iconst (M := M_X12_circle) dX12_circle_1 ?_
  refine y_put (M := M_X12_circle) (ci := 15) (C := RX12) (T := TX12) (N := 135) (ty := tyX12) cl15 dX12_circle_2 o10974 0 (by decide) t_2391 (Or.inl rfl) (Nat.le_of_ble_eq_true rfl) rfl (fun h10975 w10976 f10977 => ?_)
  refine x_aload_n (M := M_X12_circle) dX12_circle_5 rfl ?_
  refine x_iload_n (M := M_X12_circle) dX12_circle_6 rfl ?_
  refine x_callSR (M := M_X12_circle) (M' := M_X12_isPoint) rfl rfl dX12_circle_7 m_X12_isPoint t_3154 t_3155 (q4351 hl c0 c1) rfl rfl (Nat.le_of_ble_eq_true rfl) (Nat.le_of_ble_eq_true rfl) (Nat.le_of_ble_eq_true rfl) (Nat.le_of_ble_eq_true rfl) ?_
  refine x_if_eq (M := M_X12_circle) (tgt := 35) dX12_circle_10 (by decide) (fun q => absurd q (by decide +kernel)) (fun _ => ?_)
  refine x_iload_n (M := M_X12_circle) dX12_circle_13 rfl ?_
  refine x_callSR (M := M_X12_circle) (M' := M_X12_isPoint) rfl rfl dX12_circle_14 m_X12_isPoint t_3154 t_3155 (q8181 hl c2 c3) rfl rfl (Nat.le_of_ble_eq_true rfl) (Nat.le_of_ble_eq_true rfl) (Nat.le_of_ble_eq_true rfl) (Nat.le_of_ble_eq_true rfl) ?_
  refine x_if_eq (M := M_X12_circle) (tgt := 35) dX12_circle_17 (by decide) (fun _ => ?_) (fun q => absurd q (by decide +kernel))
  refine x_iconst (M := M_X12_circle) dX12_circle_35 ?_
  refine x_goto (M := M_X12_circle) (tgt := 40) dX12_circle_36 (by decide) ?_
  refine x_iconst (M := M_X12_circle) dX12_circle_40 ?_
  refine y_callVR (M := M_X12_circle) (M' := M_X12_fails) rfl rfl dX12_circle_41 m_X12_fails t_2805 t_2807 s_157 (q22 hl w10976) rfl rfl w10976 rfl (Nat.le_of_ble_eq_true rfl) (Nat.le_of_ble_eq_true rfl) (Nat.le_of_ble_eq_true rfl) (Nat.le_of_ble_eq_true rfl) (fun h10978 f10979 w10980 => ?_)
  obtain ⟨o10981, -⟩ := w10980
  refine x_if_eq (M := M_X12_circle) (tgt := 49) dX12_circle_44 (by decide) (fun q => absurd q (by decide +kernel)) (fun _ => ?_)
  refine x_iconst (M := M_X12_circle) dX12_circle_47 ?_
  exact x_iret (M := M_X12_circle) dX12_circle_48 rfl ⟨rfl, (fr_tr f10979 (by decide) (fr_tr f10977 (by decide) fr_rf)), ⟨o10981, trivial⟩⟩ (Nat.le_of_ble_eq_true rfl) (Nat.le_of_ble_eq_true rfl)
set_option maxRecDepth 10000 in
theorem lc31_7 {l : Launch} {E : EE} (hl : l.stackTraces = false) (nm : String) {xs : Nat → Int32} (hx : E.2.2.2.2 0 = some (7, xs)) {h : HP} {a0 : Int32} {a1 : Int32} {a2 : Int32} {a3 : Int32} {dg : Int32} (e2 : xs 2 = a0) (e3 : xs 3 = a1) (e4 : xs 4 = a2) (e5 : xs 5 = a3) (c0 : ¬ (a0.toInt < 0)) (c1 : a0.toInt < 32) (c2 : ¬ (a1.toInt < 0)) (c3 : ¬ (a1.toInt < 32)) (o10970 : ob h 32 = some (.inr (14, [.ref 33, .ref 162, .ref 166, .int (0 : Int32), .int (0 : Int32), .int (0 : Int32), .ref 167, .ref 170, .ref 173, .ref 177, .ref 193, .ref 208, .ref 222, .ref 238, .ref 252, .ref 274, .ref 275, .ref 276, .int (0 : Int32)]))) (o10983 : ob h 277 = some (.inr (15, (RB dg)))) : XX l E (M_law nm) 1312 342628 8074320 (fun o _ => o = .inl (some (.int 1))) 2357 [some (.ref 0), some (.ref 32), some (.ref 277), some (.ref 359), some (.int (Int32.ofInt 1)), none, none, none] [] h 328 2463747 := by
  refine x_aload_n (M := (M_law nm)) dL_law_2357 rfl ?_
  refine x_aload_n (M := (M_law nm)) dL_law_2358 rfl ?_
  refine x_iload (M := (M_law nm)) dL_law_2359 rfl ?_
  refine x_iconst (M := (M_law nm)) dL_law_2361 ?_
  refine x_iadd (M := (M_law nm)) dL_law_2362 ?_
  refine x_sald (M := (M_law nm)) dL_law_2363 (by decide) hx (vp_inD (by decide +kernel)) ?_
  refine x_top (M := (M_law nm)) (y := a0) ((congrArg xs (by decide +kernel : ((Int32.ofInt 1) + (Int32.ofInt 1)).toNatClampNeg = 2)).trans e2) ?_
  refine x_aload_n (M := (M_law nm)) dL_law_2364 rfl ?_
  refine x_iload (M := (M_law nm)) dL_law_2365 rfl ?_
  refine x_iconst (M := (M_law nm)) dL_law_2367 ?_
  refine x_iadd (M := (M_law nm)) dL_law_2368 ?_
  refine x_sald (M := (M_law nm)) dL_law_2369 (by decide) hx (vp_inD (by decide +kernel)) ?_
  refine x_top (M := (M_law nm)) (y := a1) ((congrArg xs (by decide +kernel : ((Int32.ofInt 1) + (Int32.ofInt 2)).toNatClampNeg = 3)).trans e3) ?_
  refine x_aload_n (M := (M_law nm)) dL_law_2370 rfl ?_
  refine x_iload (M := (M_law nm)) dL_law_2371 rfl ?_
  refine x_iconst (M := (M_law nm)) dL_law_2373 ?_
  refine x_iadd (M := (M_law nm)) dL_law_2374 ?_
  refine x_sald (M := (M_law nm)) dL_law_2375 (by decide) hx (vp_inD (by decide +kernel)) ?_
  refine x_top (M := (M_law nm)) (y := a2) ((congrArg xs (by decide +kernel : ((Int32.ofInt 1) + (Int32.ofInt 3)).toNatClampNeg = 4)).trans e4) ?_
  refine x_aload_n (M := (M_law nm)) dL_law_2376 rfl ?_
  refine x_iload (M := (M_law nm)) dL_law_2377 rfl ?_
  refine x_iconst (M := (M_law nm)) dL_law_2379 ?_
  refine x_iadd (M := (M_law nm)) dL_law_2380 ?_
  refine x_sald (M := (M_law nm)) dL_law_2381 (by decide) hx (vp_inD (by decide +kernel)) ?_
  refine x_top (M := (M_law nm)) (y := a3) ((congrArg xs (by decide +kernel : ((Int32.ofInt 1) + (Int32.ofInt 4)).toNatClampNeg = 5)).trans e5) ?_
  refine x_aload_n (M := (M_law nm)) dL_law_2382 rfl ?_
  refine y_callSW (M := (M_law nm)) (M' := M_L_circle) rfl rfl dL_law_2383 m_L_circle t_2364 t_2365 (q10969 hl c0 c1 c2 c3 o10970) rfl rfl (Nat.le_of_ble_eq_true rfl) (Nat.le_of_ble_eq_true rfl) (Nat.le_of_ble_eq_true rfl) (Nat.le_of_ble_eq_true rfl) (fun h10971 f10972 w10973 => ?_)
  refine x_istore (M := (M_law nm)) dL_law_2386 (Nat.le_of_ble_eq_true rfl) rfl ?_
  refine x_aload_n (M := (M_law nm)) dL_law_2388 rfl ?_
  refine x_aload_n (M := (M_law nm)) dL_law_2389 rfl ?_
  refine x_iload (M := (M_law nm)) dL_law_2390 rfl ?_
  refine x_iconst (M := (M_law nm)) dL_law_2392 ?_
  refine x_iadd (M := (M_law nm)) dL_law_2393 ?_
  refine x_sald (M := (M_law nm)) dL_law_2394 (by decide) hx (vp_inD (by decide +kernel)) ?_
  refine x_top (M := (M_law nm)) (y := a0) ((congrArg xs (by decide +kernel : ((Int32.ofInt 1) + (Int32.ofInt 1)).toNatClampNeg = 2)).trans e2) ?_
  refine x_aload_n (M := (M_law nm)) dL_law_2395 rfl ?_
  refine x_iload (M := (M_law nm)) dL_law_2396 rfl ?_
  refine x_iconst (M := (M_law nm)) dL_law_2398 ?_
  refine x_iadd (M := (M_law nm)) dL_law_2399 ?_
  refine x_sald (M := (M_law nm)) dL_law_2400 (by decide) hx (vp_inD (by decide +kernel)) ?_
  refine x_top (M := (M_law nm)) (y := a1) ((congrArg xs (by decide +kernel : ((Int32.ofInt 1) + (Int32.ofInt 2)).toNatClampNeg = 3)).trans e3) ?_
  refine x_aload_n (M := (M_law nm)) dL_law_2401 rfl ?_
  refine x_iload (M := (M_law nm)) dL_law_2402 rfl ?_
  refine x_iconst (M := (M_law nm)) dL_law_2404 ?_
  refine x_iadd (M := (M_law nm)) dL_law_2405 ?_
  refine x_sald (M := (M_law nm)) dL_law_2406 (by decide) hx (vp_inD (by decide +kernel)) ?_
  refine x_top (M := (M_law nm)) (y := a2) ((congrArg xs (by decide +kernel : ((Int32.ofInt 1) + (Int32.ofInt 3)).toNatClampNeg = 4)).trans e4) ?_
  refine x_aload_n (M := (M_law nm)) dL_law_2407 rfl ?_
  refine x_iload (M := (M_law nm)) dL_law_2408 rfl ?_
  refine x_iconst (M := (M_law nm)) dL_law_2410 ?_
  refine x_iadd (M := (M_law nm)) dL_law_2411 ?_
  refine x_sald (M := (M_law nm)) dL_law_2412 (by decide) hx (vp_inD (by decide +kernel)) ?_
  refine x_top (M := (M_law nm)) (y := a3) ((congrArg xs (by decide +kernel : ((Int32.ofInt 1) + (Int32.ofInt 4)).toNatClampNeg = 5)).trans e5) ?_
  have o10984 := (f10972 277 _ (by decide) o10983)
  refine y_callVR (M := (M_law nm)) (M' := M_X12_circle) rfl rfl dL_law_2413 m_X12_circle t_3198 t_3199 t_3200 (q10982 hl c0 c1 c2 c3 o10984) rfl rfl o10984 rfl (Nat.le_of_ble_eq_true rfl) (Nat.le_of_ble_eq_true rfl) (Nat.le_of_ble_eq_true rfl) (Nat.le_of_ble_eq_true rfl) (fun h10985 f10986 w10987 => ?_)
  obtain ⟨o10988, -⟩ := w10987
  refine x_istore (M := (M_law nm)) dL_law_2416 (Nat.le_of_ble_eq_true rfl) rfl ?_
  refine x_aload_n (M := (M_law nm)) dL_law_2418 rfl ?_
  refine x_callVR (M := (M_law nm)) (M' := M_X12_thrown) rfl rfl dL_law_2419 m_X12_thrown t_2797 t_2798 t_2799 (q35 hl o10988) rfl rfl o10988 rfl (Nat.le_of_ble_eq_true rfl) (Nat.le_of_ble_eq_true rfl) (Nat.le_of_ble_eq_true rfl) (Nat.le_of_ble_eq_true rfl) ?_
  refine x_iload (M := (M_law nm)) dL_law_2422 rfl ?_
  refine x_icmp_eq (M := (M_law nm)) (tgt := 2429) dL_law_2424 (by decide) (fun _ => ?_) (fun q => absurd q (by decide +kernel))
  refine x_iload (M := (M_law nm)) dL_law_2429 rfl ?_
  refine x_if_ne (M := (M_law nm)) (tgt := 2446) dL_law_2431 (by decide) (fun _ => ?_) (fun q => absurd q (by decide +kernel))
  refine x_goto (M := (M_law nm)) (tgt := 2449) dL_law_2446 (by decide) ?_
  refine x_iinc (M := (M_law nm)) dL_law_2449 rfl (Nat.le_of_ble_eq_true rfl) rfl ?_
  refine x_lvs (M := (M_law nm)) (lv' := [some (.ref 0), some (.ref 32), some (.ref 277), some (.ref 359), some (.int (Int32.ofInt 7)), some (.int (Int32.ofInt 1)), some (.int (Int32.ofInt 0)), none]) (by rw [(by decide +kernel : (Int32.ofInt 1) + Int32.ofInt 6 = (Int32.ofInt 7))] <;> rfl) ?_
  refine x_goto (M := (M_law nm)) (tgt := 33) dL_law_2452 (by decide) ?_
  refine x_iload (M := (M_law nm)) dL_law_33 rfl ?_
  refine x_aload_n (M := (M_law nm)) dL_law_35 rfl ?_
  refine x_slen (M := (M_law nm)) dL_law_36 (by decide) hx ?_
  refine x_bipush (M := (M_law nm)) dL_law_37 ?_
  refine x_isub (M := (M_law nm)) dL_law_39 ?_
  refine x_icmp_gt (M := (M_law nm)) (tgt := 2455) dL_law_40 (by decide) (fun _ => ?_) (fun q => absurd q (by decide +kernel))
  refine x_iconst (M := (M_law nm)) dL_law_2455 ?_
  exact x_zret (M := (M_law nm)) dL_law_2456 rfl (by decide) rfl (Nat.le_of_ble_eq_true rfl) (Nat.le_of_ble_eq_true rfl)
set_option maxRecDepth 10000 in
theorem q10990 {l : Launch} {E : EE} (hl : l.stackTraces = false) {h : HP} {a0 : Int32} {a1 : Int32} {a2 : Int32} {a3 : Int32} (c0 : ¬ (a0.toInt < 0)) (c1 : ¬ (a0.toInt < 32)) : en_C l E M_X11_circle 6 1 6 [.ref 32, .int a0, .int a1, .int a2, .int a3] h (pT "java/lang/IndexOutOfBoundsException" [] h (fun _ => True)) := by
  refine en_mk m_X11_circle rfl hl (Nat.le_of_ble_eq_true rfl) ?_
  refine x_iload_n (M := M_X11_circle) dX11_circle_0 rfl ?_
  refine x_callSR (M := M_X11_circle) (M' := M_X11_isNoSignPoint) rfl rfl dX11_circle_1 m_X11_isNoSignPoint t_2309 t_2310 (q4476 hl c0 c1) rfl rfl (Nat.le_of_ble_eq_true rfl) (Nat.le_of_ble_eq_true rfl) (Nat.le_of_ble_eq_true rfl) (Nat.le_of_ble_eq_true rfl) ?_
  refine x_if_ne (M := M_X11_circle) (tgt := 29) dX11_circle_4 (by decide) (fun _ => ?_) (fun q => absurd q (by decide +kernel))
  exact x_throw (M := M_X11_circle) (names := en_nm) rfl dX11_circle_29 dX11_circle_32 dX11_circle_33 dX11_circle_36 (by decide +kernel) en_nm_ok (Or.inl t_748) (Or.inl t_22) (at_X11_IndexOutOfBoundsException_139) (Nat.le_of_ble_eq_true rfl) (Nat.le_of_ble_eq_true rfl) (Nat.le_of_ble_eq_true rfl) (Nat.le_of_ble_eq_true rfl) (fun n9 => ⟨rfl, (fr_tr (fr_app (List.replicate n9 none)) (fun _ h => nomatch h) fr_rf), trivial⟩)
set_option maxRecDepth 10000 in
theorem q10995 {l : Launch} {E : EE} (hl : l.stackTraces = false) {h : HP} {a0 : Int32} {a1 : Int32} {a2 : Int32} {a3 : Int32} (c0 : ¬ (a0.toInt < 0)) (c1 : ¬ (a0.toInt < 32)) (o10991 : ob h 32 = some (.inr (14, [.ref 33, .ref 162, .ref 166, .int (0 : Int32), .int (0 : Int32), .int (0 : Int32), .ref 167, .ref 170, .ref 173, .ref 177, .ref 193, .ref 208, .ref 222, .ref 238, .ref 252, .ref 274, .ref 275, .ref 276, .int (0 : Int32)]))) : en_C l E M_L_circle 7 1 6 [.ref 32, .int a0, .int a1, .int a2, .int a3, .ref 359] h (pF (some (.int (Int32.ofInt 1))) [] h (fun _ => True)) := by
  refine en_mkW m_L_circle rfl hl (Nat.le_of_ble_eq_true rfl) ?_
  refine x_aload (M := M_L_circle) dL_circle_0 rfl ?_
  refine x_iconst (M := M_L_circle) dL_circle_2 ?_
  refine x_aload_n (M := M_L_circle) dL_circle_3 rfl ?_
  refine x_iload_n (M := M_L_circle) dL_circle_4 rfl ?_
  refine x_iload_n (M := M_L_circle) dL_circle_5 rfl ?_
  refine x_iload_n (M := M_L_circle) dL_circle_6 rfl ?_
  refine x_iload (M := M_L_circle) dL_circle_7 rfl ?_
  refine y_callVHX (M := M_L_circle) (M' := M_X11_circle) (i9 := 6) (nx := 19) rfl dL_circle_9 m_X11_circle t_2367 t_2368 t_2369 o10991 rfl (q10990 hl c0 c1) rfl rfl (Nat.le_of_ble_eq_true rfl) (Nat.le_of_ble_eq_true rfl) (Nat.le_of_ble_eq_true rfl) (Nat.le_of_ble_eq_true rfl) (en_hdm (k0 := 6) [] [] rfl (fun _ h => nomatch h) (by decide +kernel) (by decide) t_739 n_750 dL_circle_17) (by decide) rfl (fun h10992 f10993 w10994 => ?_)
  refine x_iconst (M := M_L_circle) dL_circle_19 ?_
  exact x_iret (M := M_L_circle) dL_circle_20 rfl ⟨rfl, (fr_tr f10993 (fun _ h => nomatch h) fr_rf), trivial⟩ (Nat.le_of_ble_eq_true rfl) (Nat.le_of_ble_eq_true rfl)
set_option maxRecDepth 10000 in
theorem q11008 {l : Launch} {E : EE} (hl : l.stackTraces = false) {h : HP} {a0 : Int32} {a1 : Int32} {a2 : Int32} {a3 : Int32} {dg : Int32} (c0 : ¬ (a0.toInt < 0)) (c1 : ¬ (a0.toInt < 32)) (o11000 : ob h 277 = some (.inr (15, (RB dg)))) : en_C l E M_X12_circle 1 0 0 [.ref 277, .int a0, .int a1, .int a2, .int a3] h (pF (some (.int (Int32.ofInt 0))) [277] h (fun h' => ob h' 277 = some (.inr (15, ((RB dg).set 0 (.int (Int32.ofInt 1))))) ∧ True)) := by
  refine en_mk m_X12_circle rfl hl (Nat.le_of_ble_eq_true rfl) ?_
  refine x_aload_n (M := M_X12_circle) dX12_circle_0 rfl ?_
  refine x_iconst (M := M_X12_circle) dX12_circle_1 ?_
  refine y_put (M := M_X12_circle) (ci := 15) (C := RX12) (T := TX12) (N := 135) (ty := tyX12) cl15 dX12_circle_2 o11000 0 (by decide) t_2391 (Or.inl rfl) (Nat.le_of_ble_eq_true rfl) rfl (fun h11001 w11002 f11003 => ?_)
  refine x_aload_n (M := M_X12_circle) dX12_circle_5 rfl ?_
  refine x_iload_n (M := M_X12_circle) dX12_circle_6 rfl ?_
  refine x_callSR (M := M_X12_circle) (M' := M_X12_isPoint) rfl rfl dX12_circle_7 m_X12_isPoint t_3154 t_3155 (q4500 hl c0 c1) rfl rfl (Nat.le_of_ble_eq_true rfl) (Nat.le_of_ble_eq_true rfl) (Nat.le_of_ble_eq_true rfl) (Nat.le_of_ble_eq_true rfl) ?_
  refine x_if_eq (M := M_X12_circle) (tgt := 35) dX12_circle_10 (by decide) (fun _ => ?_) (fun q => absurd q (by decide +kernel))
  refine x_iconst (M := M_X12_circle) dX12_circle_35 ?_
  refine x_goto (M := M_X12_circle) (tgt := 40) dX12_circle_36 (by decide) ?_
  refine x_iconst (M := M_X12_circle) dX12_circle_40 ?_
  refine y_callVR (M := M_X12_circle) (M' := M_X12_fails) rfl rfl dX12_circle_41 m_X12_fails t_2805 t_2807 s_157 (q22 hl w11002) rfl rfl w11002 rfl (Nat.le_of_ble_eq_true rfl) (Nat.le_of_ble_eq_true rfl) (Nat.le_of_ble_eq_true rfl) (Nat.le_of_ble_eq_true rfl) (fun h11004 f11005 w11006 => ?_)
  obtain ⟨o11007, -⟩ := w11006
  refine x_if_eq (M := M_X12_circle) (tgt := 49) dX12_circle_44 (by decide) (fun q => absurd q (by decide +kernel)) (fun _ => ?_)
  refine x_iconst (M := M_X12_circle) dX12_circle_47 ?_
  exact x_iret (M := M_X12_circle) dX12_circle_48 rfl ⟨rfl, (fr_tr f11005 (by decide) (fr_tr f11003 (by decide) fr_rf)), ⟨o11007, trivial⟩⟩ (Nat.le_of_ble_eq_true rfl) (Nat.le_of_ble_eq_true rfl)
set_option maxRecDepth 10000 in
theorem lc31_8 {l : Launch} {E : EE} (hl : l.stackTraces = false) (nm : String) {xs : Nat → Int32} (hx : E.2.2.2.2 0 = some (7, xs)) {h : HP} {a0 : Int32} {a1 : Int32} {a2 : Int32} {a3 : Int32} {dg : Int32} (e2 : xs 2 = a0) (e3 : xs 3 = a1) (e4 : xs 4 = a2) (e5 : xs 5 = a3) (c0 : ¬ (a0.toInt < 0)) (c1 : ¬ (a0.toInt < 32)) (o10996 : ob h 32 = some (.inr (14, [.ref 33, .ref 162, .ref 166, .int (0 : Int32), .int (0 : Int32), .int (0 : Int32), .ref 167, .ref 170, .ref 173, .ref 177, .ref 193, .ref 208, .ref 222, .ref 238, .ref 252, .ref 274, .ref 275, .ref 276, .int (0 : Int32)]))) (o11009 : ob h 277 = some (.inr (15, (RB dg)))) : XX l E (M_law nm) 1312 342628 8074320 (fun o _ => o = .inl (some (.int 1))) 2357 [some (.ref 0), some (.ref 32), some (.ref 277), some (.ref 359), some (.int (Int32.ofInt 1)), none, none, none] [] h 328 2463747 := by
  refine x_aload_n (M := (M_law nm)) dL_law_2357 rfl ?_
  refine x_aload_n (M := (M_law nm)) dL_law_2358 rfl ?_
  refine x_iload (M := (M_law nm)) dL_law_2359 rfl ?_
  refine x_iconst (M := (M_law nm)) dL_law_2361 ?_
  refine x_iadd (M := (M_law nm)) dL_law_2362 ?_
  refine x_sald (M := (M_law nm)) dL_law_2363 (by decide) hx (vp_inD (by decide +kernel)) ?_
  refine x_top (M := (M_law nm)) (y := a0) ((congrArg xs (by decide +kernel : ((Int32.ofInt 1) + (Int32.ofInt 1)).toNatClampNeg = 2)).trans e2) ?_
  refine x_aload_n (M := (M_law nm)) dL_law_2364 rfl ?_
  refine x_iload (M := (M_law nm)) dL_law_2365 rfl ?_
  refine x_iconst (M := (M_law nm)) dL_law_2367 ?_
  refine x_iadd (M := (M_law nm)) dL_law_2368 ?_
  refine x_sald (M := (M_law nm)) dL_law_2369 (by decide) hx (vp_inD (by decide +kernel)) ?_
  refine x_top (M := (M_law nm)) (y := a1) ((congrArg xs (by decide +kernel : ((Int32.ofInt 1) + (Int32.ofInt 2)).toNatClampNeg = 3)).trans e3) ?_
  refine x_aload_n (M := (M_law nm)) dL_law_2370 rfl ?_
  refine x_iload (M := (M_law nm)) dL_law_2371 rfl ?_
  refine x_iconst (M := (M_law nm)) dL_law_2373 ?_
  refine x_iadd (M := (M_law nm)) dL_law_2374 ?_
  refine x_sald (M := (M_law nm)) dL_law_2375 (by decide) hx (vp_inD (by decide +kernel)) ?_
  refine x_top (M := (M_law nm)) (y := a2) ((congrArg xs (by decide +kernel : ((Int32.ofInt 1) + (Int32.ofInt 3)).toNatClampNeg = 4)).trans e4) ?_
  refine x_aload_n (M := (M_law nm)) dL_law_2376 rfl ?_
  refine x_iload (M := (M_law nm)) dL_law_2377 rfl ?_
  refine x_iconst (M := (M_law nm)) dL_law_2379 ?_
  refine x_iadd (M := (M_law nm)) dL_law_2380 ?_
  refine x_sald (M := (M_law nm)) dL_law_2381 (by decide) hx (vp_inD (by decide +kernel)) ?_
  refine x_top (M := (M_law nm)) (y := a3) ((congrArg xs (by decide +kernel : ((Int32.ofInt 1) + (Int32.ofInt 4)).toNatClampNeg = 5)).trans e5) ?_
  refine x_aload_n (M := (M_law nm)) dL_law_2382 rfl ?_
  refine y_callSW (M := (M_law nm)) (M' := M_L_circle) rfl rfl dL_law_2383 m_L_circle t_2364 t_2365 (q10995 hl c0 c1 o10996) rfl rfl (Nat.le_of_ble_eq_true rfl) (Nat.le_of_ble_eq_true rfl) (Nat.le_of_ble_eq_true rfl) (Nat.le_of_ble_eq_true rfl) (fun h10997 f10998 w10999 => ?_)
  refine x_istore (M := (M_law nm)) dL_law_2386 (Nat.le_of_ble_eq_true rfl) rfl ?_
  refine x_aload_n (M := (M_law nm)) dL_law_2388 rfl ?_
  refine x_aload_n (M := (M_law nm)) dL_law_2389 rfl ?_
  refine x_iload (M := (M_law nm)) dL_law_2390 rfl ?_
  refine x_iconst (M := (M_law nm)) dL_law_2392 ?_
  refine x_iadd (M := (M_law nm)) dL_law_2393 ?_
  refine x_sald (M := (M_law nm)) dL_law_2394 (by decide) hx (vp_inD (by decide +kernel)) ?_
  refine x_top (M := (M_law nm)) (y := a0) ((congrArg xs (by decide +kernel : ((Int32.ofInt 1) + (Int32.ofInt 1)).toNatClampNeg = 2)).trans e2) ?_
  refine x_aload_n (M := (M_law nm)) dL_law_2395 rfl ?_
  refine x_iload (M := (M_law nm)) dL_law_2396 rfl ?_
  refine x_iconst (M := (M_law nm)) dL_law_2398 ?_
  refine x_iadd (M := (M_law nm)) dL_law_2399 ?_
  refine x_sald (M := (M_law nm)) dL_law_2400 (by decide) hx (vp_inD (by decide +kernel)) ?_
  refine x_top (M := (M_law nm)) (y := a1) ((congrArg xs (by decide +kernel : ((Int32.ofInt 1) + (Int32.ofInt 2)).toNatClampNeg = 3)).trans e3) ?_
  refine x_aload_n (M := (M_law nm)) dL_law_2401 rfl ?_
  refine x_iload (M := (M_law nm)) dL_law_2402 rfl ?_
  refine x_iconst (M := (M_law nm)) dL_law_2404 ?_
  refine x_iadd (M := (M_law nm)) dL_law_2405 ?_
  refine x_sald (M := (M_law nm)) dL_law_2406 (by decide) hx (vp_inD (by decide +kernel)) ?_
  refine x_top (M := (M_law nm)) (y := a2) ((congrArg xs (by decide +kernel : ((Int32.ofInt 1) + (Int32.ofInt 3)).toNatClampNeg = 4)).trans e4) ?_
  refine x_aload_n (M := (M_law nm)) dL_law_2407 rfl ?_
  refine x_iload (M := (M_law nm)) dL_law_2408 rfl ?_
  refine x_iconst (M := (M_law nm)) dL_law_2410 ?_
  refine x_iadd (M := (M_law nm)) dL_law_2411 ?_
  refine x_sald (M := (M_law nm)) dL_law_2412 (by decide) hx (vp_inD (by decide +kernel)) ?_
  refine x_top (M := (M_law nm)) (y := a3) ((congrArg xs (by decide +kernel : ((Int32.ofInt 1) + (Int32.ofInt 4)).toNatClampNeg = 5)).trans e5) ?_
  have o11010 := (f10998 277 _ (by decide) o11009)
  refine y_callVR (M := (M_law nm)) (M' := M_X12_circle) rfl rfl dL_law_2413 m_X12_circle t_3198 t_3199 t_3200 (q11008 hl c0 c1 o11010) rfl rfl o11010 rfl (Nat.le_of_ble_eq_true rfl) (Nat.le_of_ble_eq_true rfl) (Nat.le_of_ble_eq_true rfl) (Nat.le_of_ble_eq_true rfl) (fun h11011 f11012 w11013 => ?_)
  obtain ⟨o11014, -⟩ := w11013
  refine x_istore (M := (M_law nm)) dL_law_2416 (Nat.le_of_ble_eq_true rfl) rfl ?_
  refine x_aload_n (M := (M_law nm)) dL_law_2418 rfl ?_
  refine x_callVR (M := (M_law nm)) (M' := M_X12_thrown) rfl rfl dL_law_2419 m_X12_thrown t_2797 t_2798 t_2799 (q35 hl o11014) rfl rfl o11014 rfl (Nat.le_of_ble_eq_true rfl) (Nat.le_of_ble_eq_true rfl) (Nat.le_of_ble_eq_true rfl) (Nat.le_of_ble_eq_true rfl) ?_
  refine x_iload (M := (M_law nm)) dL_law_2422 rfl ?_
  refine x_icmp_eq (M := (M_law nm)) (tgt := 2429) dL_law_2424 (by decide) (fun _ => ?_) (fun q => absurd q (by decide +kernel))
  refine x_iload (M := (M_law nm)) dL_law_2429 rfl ?_
  refine x_if_ne (M := (M_law nm)) (tgt := 2446) dL_law_2431 (by decide) (fun _ => ?_) (fun q => absurd q (by decide +kernel))
  refine x_goto (M := (M_law nm)) (tgt := 2449) dL_law_2446 (by decide) ?_
  refine x_iinc (M := (M_law nm)) dL_law_2449 rfl (Nat.le_of_ble_eq_true rfl) rfl ?_
  refine x_lvs (M := (M_law nm)) (lv' := [some (.ref 0), some (.ref 32), some (.ref 277), some (.ref 359), some (.int (Int32.ofInt 7)), some (.int (Int32.ofInt 1)), some (.int (Int32.ofInt 0)), none]) (by rw [(by decide +kernel : (Int32.ofInt 1) + Int32.ofInt 6 = (Int32.ofInt 7))] <;> rfl) ?_
  refine x_goto (M := (M_law nm)) (tgt := 33) dL_law_2452 (by decide) ?_
  refine x_iload (M := (M_law nm)) dL_law_33 rfl ?_
  refine x_aload_n (M := (M_law nm)) dL_law_35 rfl ?_
  refine x_slen (M := (M_law nm)) dL_law_36 (by decide) hx ?_
  refine x_bipush (M := (M_law nm)) dL_law_37 ?_
  refine x_isub (M := (M_law nm)) dL_law_39 ?_
  refine x_icmp_gt (M := (M_law nm)) (tgt := 2455) dL_law_40 (by decide) (fun _ => ?_) (fun q => absurd q (by decide +kernel))
  refine x_iconst (M := (M_law nm)) dL_law_2455 ?_
  exact x_zret (M := (M_law nm)) dL_law_2456 rfl (by decide) rfl (Nat.le_of_ble_eq_true rfl) (Nat.le_of_ble_eq_true rfl)
theorem lop31 {l : Launch} {E : EE} (hl : l.stackTraces = false) (nm : String) {xs : Nat → Int32} (hx : E.2.2.2.2 0 = some (7, xs)) (dg : Int32) : XX l E (M_law nm) 1312 342628 8074320 (fun o _ => o = .inl (some (.int 1))) 2357 [some (.ref 0), some (.ref 32), some (.ref 277), some (.ref 359), some (.int (Int32.ofInt 1)), none, none, none] [] (HH dg) 328 2463747 := by
  obtain ⟨a0, e2⟩ : ∃ a : Int32, xs 2 = a := ⟨_, rfl⟩
  obtain ⟨a1, e3⟩ : ∃ a : Int32, xs 3 = a := ⟨_, rfl⟩
  obtain ⟨a2, e4⟩ : ∃ a : Int32, xs 4 = a := ⟨_, rfl⟩
  obtain ⟨a3, e5⟩ : ∃ a : Int32, xs 5 = a := ⟨_, rfl⟩
  obtain ⟨a4, e6⟩ : ∃ a : Int32, xs 6 = a := ⟨_, rfl⟩
  by_cases c0 : a0.toInt < 0
  · exact lc31_0 hl nm hx e2 e3 e4 e5 c0 (o_32 dg) (o_277b dg)
  · by_cases c1 : a0.toInt < 32
    · by_cases c2 : a1.toInt < 0
      · exact lc31_1 hl nm hx e2 e3 e4 e5 c0 c1 c2 (o_32 dg) (o_277b dg)
      · by_cases c3 : a1.toInt < 32
        · by_cases c4 : a2.toInt < 0
          · exact lc31_2 hl nm hx e2 e3 e4 e5 c0 c1 c2 c3 c4 (o_32 dg) (o_277b dg)
          · by_cases c5 : a2.toInt < 32
            · by_cases c6 : a3.toInt < 0
              · exact lc31_3 hl nm hx e2 e3 e4 e5 c0 c1 c2 c3 c4 c5 c6 (o_32 dg) (o_277b dg)
              · by_cases c7 : a3.toInt < 32
                · exact lc31_4 hl nm hx e2 e3 e4 e5 c0 c1 c2 c3 c4 c5 c6 c7 (o_32 dg) (o_252 dg) (o_253 dg) (o_255 dg) (o_256 dg) (o_272 dg) (o_273 dg) (o_257 dg) (o_258 dg) (o_254 dg) (o_259 dg) (o_260 dg) (o_261 dg) (o_262 dg) (o_263 dg) (o_269 dg) (o_270 dg) (o_271 dg) (o_264 dg) (o_265 dg) (o_266 dg) (o_267 dg) (o_268 dg) (o_359 dg) (o_277b dg) (oMR (dg := dg) (k := 19) rfl) (oMR (dg := dg) (k := 16) rfl) (oMR (dg := dg) (k := 17) rfl) (oMR (dg := dg) (k := 18) rfl) (oMR (dg := dg) (k := 20) rfl)
                · exact lc31_5 hl nm hx e2 e3 e4 e5 c0 c1 c2 c3 c4 c5 c6 c7 (o_32 dg) (o_277b dg)
            · exact lc31_6 hl nm hx e2 e3 e4 e5 c0 c1 c2 c3 c4 c5 (o_32 dg) (o_277b dg)
        · exact lc31_7 hl nm hx e2 e3 e4 e5 c0 c1 c2 c3 (o_32 dg) (o_277b dg)
    · exact lc31_8 hl nm hx e2 e3 e4 e5 c0 c1 (o_32 dg) (o_277b dg)
end CAS
