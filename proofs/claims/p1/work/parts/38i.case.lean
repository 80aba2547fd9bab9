section CAS
theorem dL_side_0 : decode cL_side 0 = .ok (.aload 4, 2) := by decide +kernel
theorem dL_side_2 : decode cL_side 2 = .ok (.iconst 0, 1) := by decide +kernel
theorem dL_side_3 : decode cL_side 3 = .ok (.aload_n 0, 1) := by decide +kernel
theorem dL_side_4 : decode cL_side 4 = .ok (.iload_n 1, 1) := by decide +kernel
theorem dL_side_5 : decode cL_side 5 = .ok (.iload_n 2, 1) := by decide +kernel
theorem dL_side_6 : decode cL_side 6 = .ok (.iload_n 3, 1) := by decide +kernel
theorem dL_side_7 : decode cL_side 7 = .ok (.invokevirtual 114, 3) := by decide +kernel
theorem dL_side_10 : decode cL_side 10 = .ok (.i2l, 1) := by decide +kernel
theorem dL_side_11 : decode cL_side 11 = .ok (.lastore, 1) := by decide +kernel
theorem dL_side_12 : decode cL_side 12 = .ok (.goto 7, 3) := by decide +kernel
theorem dL_side_15 : decode cL_side 15 = .ok (.astore 5, 2) := by decide +kernel
theorem dL_side_17 : decode cL_side 17 = .ok (.iconst 1, 1) := by decide +kernel
theorem dL_side_18 : decode cL_side 18 = .ok (.ireturn, 1) := by decide +kernel
theorem dL_side_19 : decode cL_side 19 = .ok (.iconst 0, 1) := by decide +kernel
theorem dL_side_20 : decode cL_side 20 = .ok (.ireturn, 1) := by decide +kernel
theorem dX11_side_0 : decode cX11_side 0 = .ok (.iload_n 1, 1) := by decide +kernel
theorem dX11_side_1 : decode cX11_side 1 = .ok (.invokestatic 325, 3) := by decide +kernel
theorem dX11_side_4 : decode cX11_side 4 = .ok (.ifCond .ne 17, 3) := by decide +kernel
theorem dX11_side_7 : decode cX11_side 7 = .ok (.iload_n 2, 1) := by decide +kernel
theorem dX11_side_8 : decode cX11_side 8 = .ok (.invokestatic 325, 3) := by decide +kernel
theorem dX11_side_11 : decode cX11_side 11 = .ok (.ifCond .ne 10, 3) := by decide +kernel
theorem dX11_side_14 : decode cX11_side 14 = .ok (.iload_n 3, 1) := by decide +kernel
theorem dX11_side_15 : decode cX11_side 15 = .ok (.invokestatic 325, 3) := by decide +kernel
theorem dX11_side_18 : decode cX11_side 18 = .ok (.ifCond .eq 11, 3) := by decide +kernel
theorem dX11_side_21 : decode cX11_side 21 = .ok (.new 137, 3) := by decide +kernel
theorem dX11_side_24 : decode cX11_side 24 = .ok (.dup, 1) := by decide +kernel
theorem dX11_side_25 : decode cX11_side 25 = .ok (.invokespecial 139, 3) := by decide +kernel
theorem dX11_side_28 : decode cX11_side 28 = .ok (.athrow, 1) := by decide +kernel
theorem dX11_side_29 : decode cX11_side 29 = .ok (.aload_n 0, 1) := by decide +kernel
theorem dX11_side_30 : decode cX11_side 30 = .ok (.getfield 90, 3) := by decide +kernel
theorem dX11_side_33 : decode cX11_side 33 = .ok (.iload_n 1, 1) := by decide +kernel
theorem dX11_side_34 : decode cX11_side 34 = .ok (.iload_n 2, 1) := by decide +kernel
theorem dX11_side_35 : decode cX11_side 35 = .ok (.iload_n 3, 1) := by decide +kernel
theorem dX11_side_36 : decode cX11_side 36 = .ok (.invokevirtual 338, 3) := by decide +kernel
theorem dX11_side_39 : decode cX11_side 39 = .ok (.ireturn, 1) := by decide +kernel
theorem dX12_side_0 : decode cX12_side 0 = .ok (.aload_n 0, 1) := by decide +kernel
theorem dX12_side_1 : decode cX12_side 1 = .ok (.iconst 0, 1) := by decide +kernel
theorem dX12_side_2 : decode cX12_side 2 = .ok (.putfield 271, 3) := by decide +kernel
theorem dX12_side_5 : decode cX12_side 5 = .ok (.aload_n 0, 1) := by decide +kernel
theorem dX12_side_6 : decode cX12_side 6 = .ok (.iload_n 1, 1) := by decide +kernel
theorem dX12_side_7 : decode cX12_side 7 = .ok (.invokestatic 625, 3) := by decide +kernel
theorem dX12_side_10 : decode cX12_side 10 = .ok (.ifCond .eq 17, 3) := by decide +kernel
theorem dX12_side_13 : decode cX12_side 13 = .ok (.iload_n 2, 1) := by decide +kernel
theorem dX12_side_14 : decode cX12_side 14 = .ok (.invokestatic 625, 3) := by decide +kernel
theorem dX12_side_17 : decode cX12_side 17 = .ok (.ifCond .eq 10, 3) := by decide +kernel
theorem dX12_side_20 : decode cX12_side 20 = .ok (.iload_n 3, 1) := by decide +kernel
theorem dX12_side_21 : decode cX12_side 21 = .ok (.invokestatic 625, 3) := by decide +kernel
theorem dX12_side_24 : decode cX12_side 24 = .ok (.ifCond .ne 7, 3) := by decide +kernel
theorem dX12_side_27 : decode cX12_side 27 = .ok (.iconst 1, 1) := by decide +kernel
theorem dX12_side_28 : decode cX12_side 28 = .ok (.goto 4, 3) := by decide +kernel
theorem dX12_side_31 : decode cX12_side 31 = .ok (.iconst 0, 1) := by decide +kernel
theorem dX12_side_32 : decode cX12_side 32 = .ok (.iconst 1, 1) := by decide +kernel
theorem dX12_side_33 : decode cX12_side 33 = .ok (.invokevirtual 277, 3) := by decide +kernel
theorem dX12_side_36 : decode cX12_side 36 = .ok (.ifCond .eq 5, 3) := by decide +kernel
theorem dX12_side_39 : decode cX12_side 39 = .ok (.iconst 0, 1) := by decide +kernel
theorem dX12_side_40 : decode cX12_side 40 = .ok (.ireturn, 1) := by decide +kernel
theorem dX12_side_41 : decode cX12_side 41 = .ok (.aload_n 0, 1) := by decide +kernel
theorem dX12_side_42 : decode cX12_side 42 = .ok (.iconst 0, 1) := by decide +kernel
theorem dX12_side_43 : decode cX12_side 43 = .ok (.iconst 1, 1) := by decide +kernel
theorem dX12_side_44 : decode cX12_side 44 = .ok (.iload_n 2, 1) := by decide +kernel
theorem dX12_side_45 : decode cX12_side 45 = .ok (.iload_n 1, 1) := by decide +kernel
theorem dX12_side_46 : decode cX12_side 46 = .ok (.invokevirtual 628, 3) := by decide +kernel
theorem dX12_side_49 : decode cX12_side 49 = .ok (.aload_n 0, 1) := by decide +kernel
theorem dX12_side_50 : decode cX12_side 50 = .ok (.iconst 1, 1) := by decide +kernel
theorem dX12_side_51 : decode cX12_side 51 = .ok (.iconst 0, 1) := by decide +kernel
theorem dX12_side_52 : decode cX12_side 52 = .ok (.iload_n 3, 1) := by decide +kernel
theorem dX12_side_53 : decode cX12_side 53 = .ok (.iload_n 1, 1) := by decide +kernel
theorem dX12_side_54 : decode cX12_side 54 = .ok (.invokevirtual 628, 3) := by decide +kernel
theorem dX12_side_57 : decode cX12_side 57 = .ok (.aload_n 0, 1) := by decide +kernel
theorem dX12_side_58 : decode cX12_side 58 = .ok (.iconst 2, 1) := by decide +kernel
theorem dX12_side_59 : decode cX12_side 59 = .ok (.iconst 0, 1) := by decide +kernel
theorem dX12_side_60 : decode cX12_side 60 = .ok (.iload_n 2, 1) := by decide +kernel
theorem dX12_side_61 : decode cX12_side 61 = .ok (.iload_n 1, 1) := by decide +kernel
theorem dX12_side_62 : decode cX12_side 62 = .ok (.invokevirtual 628, 3) := by decide +kernel
theorem dX12_side_65 : decode cX12_side 65 = .ok (.aload_n 0, 1) := by decide +kernel
theorem dX12_side_66 : decode cX12_side 66 = .ok (.iconst 3, 1) := by decide +kernel
theorem dX12_side_67 : decode cX12_side 67 = .ok (.iconst 1, 1) := by decide +kernel
theorem dX12_side_68 : decode cX12_side 68 = .ok (.iload_n 3, 1) := by decide +kernel
theorem dX12_side_69 : decode cX12_side 69 = .ok (.iload_n 1, 1) := by decide +kernel
theorem dX12_side_70 : decode cX12_side 70 = .ok (.invokevirtual 628, 3) := by decide +kernel
theorem dX12_side_73 : decode cX12_side 73 = .ok (.aload_n 0, 1) := by decide +kernel
theorem dX12_side_74 : decode cX12_side 74 = .ok (.iconst 4, 1) := by decide +kernel
theorem dX12_side_75 : decode cX12_side 75 = .ok (.iconst 0, 1) := by decide +kernel
theorem dX12_side_76 : decode cX12_side 76 = .ok (.iconst 1, 1) := by decide +kernel
theorem dX12_side_77 : decode cX12_side 77 = .ok (.invokevirtual 632, 3) := by decide +kernel
theorem dX12_side_80 : decode cX12_side 80 = .ok (.aload_n 0, 1) := by decide +kernel
theorem dX12_side_81 : decode cX12_side 81 = .ok (.iconst 5, 1) := by decide +kernel
theorem dX12_side_82 : decode cX12_side 82 = .ok (.iconst 2, 1) := by decide +kernel
theorem dX12_side_83 : decode cX12_side 83 = .ok (.iconst 3, 1) := by decide +kernel
theorem dX12_side_84 : decode cX12_side 84 = .ok (.invokevirtual 632, 3) := by decide +kernel
theorem dX12_side_87 : decode cX12_side 87 = .ok (.aload_n 0, 1) := by decide +kernel
theorem dX12_side_88 : decode cX12_side 88 = .ok (.bipush 6, 2) := by decide +kernel
theorem dX12_side_90 : decode cX12_side 90 = .ok (.iconst 4, 1) := by decide +kernel
theorem dX12_side_91 : decode cX12_side 91 = .ok (.iconst 5, 1) := by decide +kernel
theorem dX12_side_92 : decode cX12_side 92 = .ok (.iconst 1, 1) := by decide +kernel
theorem dX12_side_93 : decode cX12_side 93 = .ok (.invokevirtual 621, 3) := by decide +kernel
theorem dX12_side_96 : decode cX12_side 96 = .ok (.aload_n 0, 1) := by decide +kernel
theorem dX12_side_97 : decode cX12_side 97 = .ok (.getfield 69, 3) := by decide +kernel
theorem dX12_side_100 : decode cX12_side 100 = .ok (.bipush 6, 2) := by decide +kernel
theorem dX12_side_102 : decode cX12_side 102 = .ok (.iaload, 1) := by decide +kernel
theorem dX12_side_103 : decode cX12_side 103 = .ok (.ireturn, 1) := by decide +kernel
theorem dX7_sideSign_0 : decode cX7_sideSign 0 = .ok (.aload_n 0, 1) := by decide +kernel
theorem dX7_sideSign_1 : decode cX7_sideSign 1 = .ok (.iconst 2, 1) := by decide +kernel
theorem dX7_sideSign_2 : decode cX7_sideSign 2 = .ok (.aload_n 0, 1) := by decide +kernel
theorem dX7_sideSign_3 : decode cX7_sideSign 3 = .ok (.getfield 9, 3) := by decide +kernel
theorem dX7_sideSign_6 : decode cX7_sideSign 6 = .ok (.iload_n 2, 1) := by decide +kernel
theorem dX7_sideSign_7 : decode cX7_sideSign 7 = .ok (.laload, 1) := by decide +kernel
theorem dX7_sideSign_8 : decode cX7_sideSign 8 = .ok (.aload_n 0, 1) := by decide +kernel
theorem dX7_sideSign_9 : decode cX7_sideSign 9 = .ok (.getfield 9, 3) := by decide +kernel
theorem dX7_sideSign_12 : decode cX7_sideSign 12 = .ok (.iload_n 1, 1) := by decide +kernel
theorem dX7_sideSign_13 : decode cX7_sideSign 13 = .ok (.laload, 1) := by decide +kernel
theorem dX7_sideSign_14 : decode cX7_sideSign 14 = .ok (.invokevirtual 30, 3) := by decide +kernel
theorem dX7_sideSign_17 : decode cX7_sideSign 17 = .ok (.aload_n 0, 1) := by decide +kernel
theorem dX7_sideSign_18 : decode cX7_sideSign 18 = .ok (.iconst 3, 1) := by decide +kernel
theorem dX7_sideSign_19 : decode cX7_sideSign 19 = .ok (.aload_n 0, 1) := by decide +kernel
theorem dX7_sideSign_20 : decode cX7_sideSign 20 = .ok (.getfield 15, 3) := by decide +kernel
theorem dX7_sideSign_23 : decode cX7_sideSign 23 = .ok (.iload_n 3, 1) := by decide +kernel
theorem dX7_sideSign_24 : decode cX7_sideSign 24 = .ok (.laload, 1) := by decide +kernel
theorem dX7_sideSign_25 : decode cX7_sideSign 25 = .ok (.aload_n 0, 1) := by decide +kernel
theorem dX7_sideSign_26 : decode cX7_sideSign 26 = .ok (.getfield 15, 3) := by decide +kernel
theorem dX7_sideSign_29 : decode cX7_sideSign 29 = .ok (.iload_n 1, 1) := by decide +kernel
theorem dX7_sideSign_30 : decode cX7_sideSign 30 = .ok (.laload, 1) := by decide +kernel
theorem dX7_sideSign_31 : decode cX7_sideSign 31 = .ok (.invokevirtual 30, 3) := by decide +kernel
theorem dX7_sideSign_34 : decode cX7_sideSign 34 = .ok (.aload_n 0, 1) := by decide +kernel
theorem dX7_sideSign_35 : decode cX7_sideSign 35 = .ok (.iconst 4, 1) := by decide +kernel
theorem dX7_sideSign_36 : decode cX7_sideSign 36 = .ok (.aload_n 0, 1) := by decide +kernel
theorem dX7_sideSign_37 : decode cX7_sideSign 37 = .ok (.getfield 15, 3) := by decide +kernel
theorem dX7_sideSign_40 : decode cX7_sideSign 40 = .ok (.iload_n 2, 1) := by decide +kernel
theorem dX7_sideSign_41 : decode cX7_sideSign 41 = .ok (.laload, 1) := by decide +kernel
theorem dX7_sideSign_42 : decode cX7_sideSign 42 = .ok (.aload_n 0, 1) := by decide +kernel
theorem dX7_sideSign_43 : decode cX7_sideSign 43 = .ok (.getfield 15, 3) := by decide +kernel
theorem dX7_sideSign_46 : decode cX7_sideSign 46 = .ok (.iload_n 1, 1) := by decide +kernel
theorem dX7_sideSign_47 : decode cX7_sideSign 47 = .ok (.laload, 1) := by decide +kernel
theorem dX7_sideSign_48 : decode cX7_sideSign 48 = .ok (.invokevirtual 30, 3) := by decide +kernel
theorem dX7_sideSign_51 : decode cX7_sideSign 51 = .ok (.aload_n 0, 1) := by decide +kernel
theorem dX7_sideSign_52 : decode cX7_sideSign 52 = .ok (.iconst 5, 1) := by decide +kernel
theorem dX7_sideSign_53 : decode cX7_sideSign 53 = .ok (.aload_n 0, 1) := by decide +kernel
theorem dX7_sideSign_54 : decode cX7_sideSign 54 = .ok (.getfield 9, 3) := by decide +kernel
theorem dX7_sideSign_57 : decode cX7_sideSign 57 = .ok (.iload_n 3, 1) := by decide +kernel
theorem dX7_sideSign_58 : decode cX7_sideSign 58 = .ok (.laload, 1) := by decide +kernel
theorem dX7_sideSign_59 : decode cX7_sideSign 59 = .ok (.aload_n 0, 1) := by decide +kernel
theorem dX7_sideSign_60 : decode cX7_sideSign 60 = .ok (.getfield 9, 3) := by decide +kernel
theorem dX7_sideSign_63 : decode cX7_sideSign 63 = .ok (.iload_n 1, 1) := by decide +kernel
theorem dX7_sideSign_64 : decode cX7_sideSign 64 = .ok (.laload, 1) := by decide +kernel
theorem dX7_sideSign_65 : decode cX7_sideSign 65 = .ok (.invokevirtual 30, 3) := by decide +kernel
theorem dX7_sideSign_68 : decode cX7_sideSign 68 = .ok (.aload_n 0, 1) := by decide +kernel
theorem dX7_sideSign_69 : decode cX7_sideSign 69 = .ok (.bipush 6, 2) := by decide +kernel
theorem dX7_sideSign_71 : decode cX7_sideSign 71 = .ok (.iconst 2, 1) := by decide +kernel
theorem dX7_sideSign_72 : decode cX7_sideSign 72 = .ok (.iconst 3, 1) := by decide +kernel
theorem dX7_sideSign_73 : decode cX7_sideSign 73 = .ok (.invokevirtual 34, 3) := by decide +kernel
theorem dX7_sideSign_76 : decode cX7_sideSign 76 = .ok (.aload_n 0, 1) := by decide +kernel
theorem dX7_sideSign_77 : decode cX7_sideSign 77 = .ok (.bipush 7, 2) := by decide +kernel
theorem dX7_sideSign_79 : decode cX7_sideSign 79 = .ok (.iconst 4, 1) := by decide +kernel
theorem dX7_sideSign_80 : decode cX7_sideSign 80 = .ok (.iconst 5, 1) := by decide +kernel
theorem dX7_sideSign_81 : decode cX7_sideSign 81 = .ok (.invokevirtual 34, 3) := by decide +kernel
theorem dX7_sideSign_84 : decode cX7_sideSign 84 = .ok (.aload_n 0, 1) := by decide +kernel
theorem dX7_sideSign_85 : decode cX7_sideSign 85 = .ok (.bipush 8, 2) := by decide +kernel
theorem dX7_sideSign_87 : decode cX7_sideSign 87 = .ok (.bipush 6, 2) := by decide +kernel
theorem dX7_sideSign_89 : decode cX7_sideSign 89 = .ok (.bipush 7, 2) := by decide +kernel
theorem dX7_sideSign_91 : decode cX7_sideSign 91 = .ok (.iconst (-1), 1) := by decide +kernel
theorem dX7_sideSign_92 : decode cX7_sideSign 92 = .ok (.invokevirtual 38, 3) := by decide +kernel
theorem dX7_sideSign_95 : decode cX7_sideSign 95 = .ok (.aload_n 0, 1) := by decide +kernel
theorem dX7_sideSign_96 : decode cX7_sideSign 96 = .ok (.getfield 27, 3) := by decide +kernel
theorem dX7_sideSign_99 : decode cX7_sideSign 99 = .ok (.bipush 8, 2) := by decide +kernel
theorem dX7_sideSign_101 : decode cX7_sideSign 101 = .ok (.iaload, 1) := by decide +kernel
theorem dX7_sideSign_102 : decode cX7_sideSign 102 = .ok (.ireturn, 1) := by decide +kernel
theorem dX7_difference_0 : decode cX7_difference 0 = .ok (.aload_n 0, 1) := by decide +kernel
theorem dX7_difference_1 : decode cX7_difference 1 = .ok (.iconst 0, 1) := by decide +kernel
theorem dX7_difference_2 : decode cX7_difference 2 = .ok (.lload_n 2, 1) := by decide +kernel
theorem dX7_difference_3 : decode cX7_difference 3 = .ok (.invokevirtual 45, 3) := by decide +kernel
theorem dX7_difference_6 : decode cX7_difference 6 = .ok (.aload_n 0, 1) := by decide +kernel
theorem dX7_difference_7 : decode cX7_difference 7 = .ok (.iconst 1, 1) := by decide +kernel
theorem dX7_difference_8 : decode cX7_difference 8 = .ok (.lload 4, 2) := by decide +kernel
theorem dX7_difference_10 : decode cX7_difference 10 = .ok (.invokevirtual 45, 3) := by decide +kernel
theorem dX7_difference_13 : decode cX7_difference 13 = .ok (.aload_n 0, 1) := by decide +kernel
theorem dX7_difference_14 : decode cX7_difference 14 = .ok (.iload_n 1, 1) := by decide +kernel
theorem dX7_difference_15 : decode cX7_difference 15 = .ok (.iconst 0, 1) := by decide +kernel
theorem dX7_difference_16 : decode cX7_difference 16 = .ok (.iconst 1, 1) := by decide +kernel
theorem dX7_difference_17 : decode cX7_difference 17 = .ok (.iconst (-1), 1) := by decide +kernel
theorem dX7_difference_18 : decode cX7_difference 18 = .ok (.invokevirtual 38, 3) := by decide +kernel
theorem dX7_difference_21 : decode cX7_difference 21 = .ok (.return_, 1) := by decide +kernel
theorem dX7_load_0 : decode cX7_load 0 = .ok (.lload_n 2, 1) := by decide +kernel
theorem dX7_load_1 : decode cX7_load 1 = .ok (.bipush 52, 2) := by decide +kernel
theorem dX7_load_3 : decode cX7_load 3 = .ok (.lushr, 1) := by decide +kernel
theorem dX7_load_4 : decode cX7_load 4 = .ok (.l2i, 1) := by decide +kernel
theorem dX7_load_5 : decode cX7_load 5 = .ok (.sipush 2047, 3) := by decide +kernel
theorem dX7_load_8 : decode cX7_load 8 = .ok (.iand, 1) := by decide +kernel
theorem dX7_load_9 : decode cX7_load 9 = .ok (.istore 4, 2) := by decide +kernel
theorem dX7_load_11 : decode cX7_load 11 = .ok (.iload 4, 2) := by decide +kernel
theorem dX7_load_13 : decode cX7_load 13 = .ok (.ifCond .ne 11, 3) := by decide +kernel
theorem dX7_load_16 : decode cX7_load 16 = .ok (.lload_n 2, 1) := by decide +kernel
theorem dX7_load_17 : decode cX7_load 17 = .ok (.ldc2_w 49, 3) := by decide +kernel
theorem dX7_load_20 : decode cX7_load 20 = .ok (.land, 1) := by decide +kernel
theorem dX7_load_21 : decode cX7_load 21 = .ok (.goto 14, 3) := by decide +kernel
theorem dX7_load_35 : decode cX7_load 35 = .ok (.lstore 5, 2) := by decide +kernel
theorem dX7_load_37 : decode cX7_load 37 = .ok (.iload 4, 2) := by decide +kernel
theorem dX7_load_39 : decode cX7_load 39 = .ok (.iconst 1, 1) := by decide +kernel
theorem dX7_load_40 : decode cX7_load 40 = .ok (.isub, 1) := by decide +kernel
theorem dX7_load_41 : decode cX7_load 41 = .ok (.iconst 0, 1) := by decide +kernel
theorem dX7_load_42 : decode cX7_load 42 = .ok (.invokestatic 51, 3) := by decide +kernel
theorem dX7_load_45 : decode cX7_load 45 = .ok (.istore 7, 2) := by decide +kernel
theorem dX7_load_47 : decode cX7_load 47 = .ok (.iload 7, 2) := by decide +kernel
theorem dX7_load_49 : decode cX7_load 49 = .ok (.iconst 5, 1) := by decide +kernel
theorem dX7_load_50 : decode cX7_load 50 = .ok (.ishr, 1) := by decide +kernel
theorem dX7_load_51 : decode cX7_load 51 = .ok (.istore 8, 2) := by decide +kernel
theorem dX7_load_53 : decode cX7_load 53 = .ok (.iload 7, 2) := by decide +kernel
theorem dX7_load_55 : decode cX7_load 55 = .ok (.bipush 31, 2) := by decide +kernel
theorem dX7_load_57 : decode cX7_load 57 = .ok (.iand, 1) := by decide +kernel
theorem dX7_load_58 : decode cX7_load 58 = .ok (.istore 9, 2) := by decide +kernel
theorem dX7_load_60 : decode cX7_load 60 = .ok (.aload_n 0, 1) := by decide +kernel
theorem dX7_load_61 : decode cX7_load 61 = .ok (.getfield 20, 3) := by decide +kernel
theorem dX7_load_64 : decode cX7_load 64 = .ok (.iload_n 1, 1) := by decide +kernel
theorem dX7_load_65 : decode cX7_load 65 = .ok (.aaload, 1) := by decide +kernel
theorem dX7_load_66 : decode cX7_load 66 = .ok (.iconst 0, 1) := by decide +kernel
theorem dX7_load_67 : decode cX7_load 67 = .ok (.iload 8, 2) := by decide +kernel
theorem dX7_load_69 : decode cX7_load 69 = .ok (.iconst 3, 1) := by decide +kernel
theorem dX7_load_70 : decode cX7_load 70 = .ok (.iadd, 1) := by decide +kernel
theorem dX7_load_71 : decode cX7_load 71 = .ok (.iconst 0, 1) := by decide +kernel
theorem dX7_load_72 : decode cX7_load 72 = .ok (.invokestatic 57, 3) := by decide +kernel
theorem dX7_load_75 : decode cX7_load 75 = .ok (.lload 5, 2) := by decide +kernel
theorem dX7_load_77 : decode cX7_load 77 = .ok (.ldc2_w 63, 3) := by decide +kernel
theorem dX7_load_80 : decode cX7_load 80 = .ok (.land, 1) := by decide +kernel
theorem dX7_load_81 : decode cX7_load 81 = .ok (.iload 9, 2) := by decide +kernel
theorem dX7_load_83 : decode cX7_load 83 = .ok (.lshl, 1) := by decide +kernel
theorem dX7_load_84 : decode cX7_load 84 = .ok (.lstore 10, 2) := by decide +kernel
theorem dX7_load_86 : decode cX7_load 86 = .ok (.lload 5, 2) := by decide +kernel
theorem dX7_load_88 : decode cX7_load 88 = .ok (.bipush 32, 2) := by decide +kernel
theorem dX7_load_90 : decode cX7_load 90 = .ok (.lushr, 1) := by decide +kernel
theorem dX7_load_91 : decode cX7_load 91 = .ok (.iload 9, 2) := by decide +kernel
theorem dX7_load_93 : decode cX7_load 93 = .ok (.lshl, 1) := by decide +kernel
theorem dX7_load_94 : decode cX7_load 94 = .ok (.lload 10, 2) := by decide +kernel
theorem dX7_load_96 : decode cX7_load 96 = .ok (.bipush 32, 2) := by decide +kernel
theorem dX7_load_98 : decode cX7_load 98 = .ok (.lushr, 1) := by decide +kernel
theorem dX7_load_99 : decode cX7_load 99 = .ok (.ladd, 1) := by decide +kernel
theorem dX7_load_100 : decode cX7_load 100 = .ok (.lstore 12, 2) := by decide +kernel
theorem dX7_load_102 : decode cX7_load 102 = .ok (.aload_n 0, 1) := by decide +kernel
theorem dX7_load_103 : decode cX7_load 103 = .ok (.getfield 20, 3) := by decide +kernel
theorem dX7_load_106 : decode cX7_load 106 = .ok (.iload_n 1, 1) := by decide +kernel
theorem dX7_load_107 : decode cX7_load 107 = .ok (.aaload, 1) := by decide +kernel
theorem dX7_load_108 : decode cX7_load 108 = .ok (.iload 8, 2) := by decide +kernel
theorem dX7_load_110 : decode cX7_load 110 = .ok (.lload 10, 2) := by decide +kernel
theorem dX7_load_112 : decode cX7_load 112 = .ok (.l2i, 1) := by decide +kernel
theorem dX7_load_113 : decode cX7_load 113 = .ok (.iastore, 1) := by decide +kernel
theorem dX7_load_114 : decode cX7_load 114 = .ok (.aload_n 0, 1) := by decide +kernel
theorem dX7_load_115 : decode cX7_load 115 = .ok (.getfield 20, 3) := by decide +kernel
theorem dX7_load_118 : decode cX7_load 118 = .ok (.iload_n 1, 1) := by decide +kernel
theorem dX7_load_119 : decode cX7_load 119 = .ok (.aaload, 1) := by decide +kernel
theorem dX7_load_120 : decode cX7_load 120 = .ok (.iload 8, 2) := by decide +kernel
theorem dX7_load_122 : decode cX7_load 122 = .ok (.iconst 1, 1) := by decide +kernel
theorem dX7_load_123 : decode cX7_load 123 = .ok (.iadd, 1) := by decide +kernel
theorem dX7_load_124 : decode cX7_load 124 = .ok (.lload 12, 2) := by decide +kernel
theorem dX7_load_126 : decode cX7_load 126 = .ok (.l2i, 1) := by decide +kernel
theorem dX7_load_127 : decode cX7_load 127 = .ok (.iastore, 1) := by decide +kernel
theorem dX7_load_128 : decode cX7_load 128 = .ok (.aload_n 0, 1) := by decide +kernel
theorem dX7_load_129 : decode cX7_load 129 = .ok (.getfield 20, 3) := by decide +kernel
theorem dX7_load_132 : decode cX7_load 132 = .ok (.iload_n 1, 1) := by decide +kernel
theorem dX7_load_133 : decode cX7_load 133 = .ok (.aaload, 1) := by decide +kernel
theorem dX7_load_134 : decode cX7_load 134 = .ok (.iload 8, 2) := by decide +kernel
theorem dX7_load_136 : decode cX7_load 136 = .ok (.iconst 2, 1) := by decide +kernel
theorem dX7_load_137 : decode cX7_load 137 = .ok (.iadd, 1) := by decide +kernel
theorem dX7_load_138 : decode cX7_load 138 = .ok (.lload 12, 2) := by decide +kernel
theorem dX7_load_140 : decode cX7_load 140 = .ok (.bipush 32, 2) := by decide +kernel
theorem dX7_load_142 : decode cX7_load 142 = .ok (.lushr, 1) := by decide +kernel
theorem dX7_load_143 : decode cX7_load 143 = .ok (.l2i, 1) := by decide +kernel
theorem dX7_load_144 : decode cX7_load 144 = .ok (.iastore, 1) := by decide +kernel
theorem dX7_load_145 : decode cX7_load 145 = .ok (.aload_n 0, 1) := by decide +kernel
theorem dX7_load_146 : decode cX7_load 146 = .ok (.getfield 23, 3) := by decide +kernel
theorem dX7_load_149 : decode cX7_load 149 = .ok (.iload_n 1, 1) := by decide +kernel
theorem dX7_load_150 : decode cX7_load 150 = .ok (.iload 8, 2) := by decide +kernel
theorem dX7_load_152 : decode cX7_load 152 = .ok (.iconst 3, 1) := by decide +kernel
theorem dX7_load_153 : decode cX7_load 153 = .ok (.iadd, 1) := by decide +kernel
theorem dX7_load_154 : decode cX7_load 154 = .ok (.iastore, 1) := by decide +kernel
theorem dX7_load_155 : decode cX7_load 155 = .ok (.aload_n 0, 1) := by decide +kernel
theorem dX7_load_156 : decode cX7_load 156 = .ok (.getfield 27, 3) := by decide +kernel
theorem dX7_load_159 : decode cX7_load 159 = .ok (.iload_n 1, 1) := by decide +kernel
theorem dX7_load_160 : decode cX7_load 160 = .ok (.lload_n 2, 1) := by decide +kernel
theorem dX7_load_161 : decode cX7_load 161 = .ok (.lconst 0, 1) := by decide +kernel
theorem dX7_load_162 : decode cX7_load 162 = .ok (.lcmp, 1) := by decide +kernel
theorem dX7_load_163 : decode cX7_load 163 = .ok (.ifCond .ge 7, 3) := by decide +kernel
theorem dX7_load_170 : decode cX7_load 170 = .ok (.iconst 1, 1) := by decide +kernel
theorem dX7_load_171 : decode cX7_load 171 = .ok (.iastore, 1) := by decide +kernel
theorem dX7_load_172 : decode cX7_load 172 = .ok (.aload_n 0, 1) := by decide +kernel
theorem dX7_load_173 : decode cX7_load 173 = .ok (.iload_n 1, 1) := by decide +kernel
theorem dX7_load_174 : decode cX7_load 174 = .ok (.invokevirtual 65, 3) := by decide +kernel
theorem dX7_load_177 : decode cX7_load 177 = .ok (.return_, 1) := by decide +kernel
theorem dJ7_fill_fda19_0 : decode cJ7_fill_fda19 0 = .ok (.aload_n 0, 1) := by decide +kernel
theorem dJ7_fill_fda19_1 : decode cJ7_fill_fda19 1 = .ok (.arraylength, 1) := by decide +kernel
theorem dJ7_fill_fda19_2 : decode cJ7_fill_fda19 2 = .ok (.iload_n 1, 1) := by decide +kernel
theorem dJ7_fill_fda19_3 : decode cJ7_fill_fda19 3 = .ok (.iload_n 2, 1) := by decide +kernel
theorem dJ7_fill_fda19_4 : decode cJ7_fill_fda19 4 = .ok (.invokestatic 13, 3) := by decide +kernel
theorem dJ7_fill_fda19_7 : decode cJ7_fill_fda19 7 = .ok (.iload_n 1, 1) := by decide +kernel
theorem dJ7_fill_fda19_8 : decode cJ7_fill_fda19 8 = .ok (.istore 4, 2) := by decide +kernel
theorem dJ7_fill_fda19_10 : decode cJ7_fill_fda19 10 = .ok (.iload 4, 2) := by decide +kernel
theorem dJ7_fill_fda19_12 : decode cJ7_fill_fda19 12 = .ok (.iload_n 2, 1) := by decide +kernel
theorem dJ7_fill_fda19_13 : decode cJ7_fill_fda19 13 = .ok (.if_icmp .ge 14, 3) := by decide +kernel
theorem dJ7_fill_fda19_16 : decode cJ7_fill_fda19 16 = .ok (.aload_n 0, 1) := by decide +kernel
theorem dJ7_fill_fda19_17 : decode cJ7_fill_fda19 17 = .ok (.iload 4, 2) := by decide +kernel
theorem dJ7_fill_fda19_19 : decode cJ7_fill_fda19 19 = .ok (.iload_n 3, 1) := by decide +kernel
theorem dJ7_fill_fda19_20 : decode cJ7_fill_fda19 20 = .ok (.iastore, 1) := by decide +kernel
theorem dJ7_fill_fda19_21 : decode cJ7_fill_fda19 21 = .ok (.iinc 4 1, 3) := by decide +kernel
theorem dJ7_fill_fda19_24 : decode cJ7_fill_fda19 24 = .ok (.goto (-14), 3) := by decide +kernel
theorem dJ7_fill_fda19_27 : decode cJ7_fill_fda19 27 = .ok (.return_, 1) := by decide +kernel
theorem dJ7_rangeCheck_23922_0 : decode cJ7_rangeCheck_23922 0 = .ok (.iload_n 1, 1) := by decide +kernel
theorem dJ7_rangeCheck_23922_1 : decode cJ7_rangeCheck_23922 1 = .ok (.iload_n 2, 1) := by decide +kernel
theorem dJ7_rangeCheck_23922_2 : decode cJ7_rangeCheck_23922 2 = .ok (.if_icmp .le 44, 3) := by decide +kernel
theorem dJ7_rangeCheck_23922_46 : decode cJ7_rangeCheck_23922 46 = .ok (.iload_n 1, 1) := by decide +kernel
theorem dJ7_rangeCheck_23922_47 : decode cJ7_rangeCheck_23922 47 = .ok (.ifCond .ge 12, 3) := by decide +kernel
theorem dJ7_rangeCheck_23922_59 : decode cJ7_rangeCheck_23922 59 = .ok (.iload_n 2, 1) := by decide +kernel
theorem dJ7_rangeCheck_23922_60 : decode cJ7_rangeCheck_23922 60 = .ok (.iload_n 0, 1) := by decide +kernel
theorem dJ7_rangeCheck_23922_61 : decode cJ7_rangeCheck_23922 61 = .ok (.if_icmp .le 12, 3) := by decide +kernel
theorem dJ7_rangeCheck_23922_73 : decode cJ7_rangeCheck_23922 73 = .ok (.return_, 1) := by decide +kernel
theorem dX7_trim_0 : decode cX7_trim 0 = .ok (.aload_n 0, 1) := by decide +kernel
theorem dX7_trim_1 : decode cX7_trim 1 = .ok (.getfield 23, 3) := by decide +kernel
theorem dX7_trim_4 : decode cX7_trim 4 = .ok (.iload_n 1, 1) := by decide +kernel
theorem dX7_trim_5 : decode cX7_trim 5 = .ok (.iaload, 1) := by decide +kernel
theorem dX7_trim_6 : decode cX7_trim 6 = .ok (.ifCond .le 34, 3) := by decide +kernel
theorem dX7_trim_9 : decode cX7_trim 9 = .ok (.aload_n 0, 1) := by decide +kernel
theorem dX7_trim_10 : decode cX7_trim 10 = .ok (.getfield 20, 3) := by decide +kernel
theorem dX7_trim_13 : decode cX7_trim 13 = .ok (.iload_n 1, 1) := by decide +kernel
theorem dX7_trim_14 : decode cX7_trim 14 = .ok (.aaload, 1) := by decide +kernel
theorem dX7_trim_15 : decode cX7_trim 15 = .ok (.aload_n 0, 1) := by decide +kernel
theorem dX7_trim_16 : decode cX7_trim 16 = .ok (.getfield 23, 3) := by decide +kernel
theorem dX7_trim_19 : decode cX7_trim 19 = .ok (.iload_n 1, 1) := by decide +kernel
theorem dX7_trim_20 : decode cX7_trim 20 = .ok (.iaload, 1) := by decide +kernel
theorem dX7_trim_21 : decode cX7_trim 21 = .ok (.iconst 1, 1) := by decide +kernel
theorem dX7_trim_22 : decode cX7_trim 22 = .ok (.isub, 1) := by decide +kernel
theorem dX7_trim_23 : decode cX7_trim 23 = .ok (.iaload, 1) := by decide +kernel
theorem dX7_trim_24 : decode cX7_trim 24 = .ok (.ifCond .ne 16, 3) := by decide +kernel
theorem dX7_trim_27 : decode cX7_trim 27 = .ok (.aload_n 0, 1) := by decide +kernel
theorem dX7_trim_28 : decode cX7_trim 28 = .ok (.getfield 23, 3) := by decide +kernel
theorem dX7_trim_31 : decode cX7_trim 31 = .ok (.iload_n 1, 1) := by decide +kernel
theorem dX7_trim_32 : decode cX7_trim 32 = .ok (.dup2, 1) := by decide +kernel
theorem dX7_trim_33 : decode cX7_trim 33 = .ok (.iaload, 1) := by decide +kernel
theorem dX7_trim_34 : decode cX7_trim 34 = .ok (.iconst 1, 1) := by decide +kernel
theorem dX7_trim_35 : decode cX7_trim 35 = .ok (.isub, 1) := by decide +kernel
theorem dX7_trim_36 : decode cX7_trim 36 = .ok (.iastore, 1) := by decide +kernel
theorem dX7_trim_37 : decode cX7_trim 37 = .ok (.goto (-37), 3) := by decide +kernel
theorem dX7_trim_40 : decode cX7_trim 40 = .ok (.aload_n 0, 1) := by decide +kernel
theorem dX7_trim_41 : decode cX7_trim 41 = .ok (.getfield 23, 3) := by decide +kernel
theorem dX7_trim_44 : decode cX7_trim 44 = .ok (.iload_n 1, 1) := by decide +kernel
theorem dX7_trim_45 : decode cX7_trim 45 = .ok (.iaload, 1) := by decide +kernel
theorem dX7_trim_46 : decode cX7_trim 46 = .ok (.ifCond .ne 10, 3) := by decide +kernel
theorem dX7_trim_49 : decode cX7_trim 49 = .ok (.aload_n 0, 1) := by decide +kernel
theorem dX7_trim_50 : decode cX7_trim 50 = .ok (.getfield 27, 3) := by decide +kernel
theorem dX7_trim_53 : decode cX7_trim 53 = .ok (.iload_n 1, 1) := by decide +kernel
theorem dX7_trim_54 : decode cX7_trim 54 = .ok (.iconst 0, 1) := by decide +kernel
theorem dX7_trim_55 : decode cX7_trim 55 = .ok (.iastore, 1) := by decide +kernel
theorem dX7_trim_56 : decode cX7_trim 56 = .ok (.return_, 1) := by decide +kernel
theorem dX7_addSigned_0 : decode cX7_addSigned 0 = .ok (.aload_n 0, 1) := by decide +kernel
theorem dX7_addSigned_1 : decode cX7_addSigned 1 = .ok (.getfield 27, 3) := by decide +kernel
theorem dX7_addSigned_4 : decode cX7_addSigned 4 = .ok (.iload_n 3, 1) := by decide +kernel
theorem dX7_addSigned_5 : decode cX7_addSigned 5 = .ok (.iaload, 1) := by decide +kernel
theorem dX7_addSigned_6 : decode cX7_addSigned 6 = .ok (.iload 4, 2) := by decide +kernel
theorem dX7_addSigned_8 : decode cX7_addSigned 8 = .ok (.imul, 1) := by decide +kernel
theorem dX7_addSigned_9 : decode cX7_addSigned 9 = .ok (.istore 5, 2) := by decide +kernel
theorem dX7_addSigned_11 : decode cX7_addSigned 11 = .ok (.aload_n 0, 1) := by decide +kernel
theorem dX7_addSigned_12 : decode cX7_addSigned 12 = .ok (.getfield 27, 3) := by decide +kernel
theorem dX7_addSigned_15 : decode cX7_addSigned 15 = .ok (.iload_n 2, 1) := by decide +kernel
theorem dX7_addSigned_16 : decode cX7_addSigned 16 = .ok (.iaload, 1) := by decide +kernel
theorem dX7_addSigned_17 : decode cX7_addSigned 17 = .ok (.iload 5, 2) := by decide +kernel
theorem dX7_addSigned_19 : decode cX7_addSigned 19 = .ok (.imul, 1) := by decide +kernel
theorem dX7_addSigned_20 : decode cX7_addSigned 20 = .ok (.ifCond .lt 44, 3) := by decide +kernel
theorem dX7_addSigned_23 : decode cX7_addSigned 23 = .ok (.aload_n 0, 1) := by decide +kernel
theorem dX7_addSigned_24 : decode cX7_addSigned 24 = .ok (.getfield 27, 3) := by decide +kernel
theorem dX7_addSigned_27 : decode cX7_addSigned 27 = .ok (.iload_n 2, 1) := by decide +kernel
theorem dX7_addSigned_28 : decode cX7_addSigned 28 = .ok (.iaload, 1) := by decide +kernel
theorem dX7_addSigned_29 : decode cX7_addSigned 29 = .ok (.ifCond .eq 12, 3) := by decide +kernel
theorem dX7_addSigned_41 : decode cX7_addSigned 41 = .ok (.iload 5, 2) := by decide +kernel
theorem dX7_addSigned_43 : decode cX7_addSigned 43 = .ok (.istore 6, 2) := by decide +kernel
theorem dX7_addSigned_45 : decode cX7_addSigned 45 = .ok (.aload_n 0, 1) := by decide +kernel
theorem dX7_addSigned_46 : decode cX7_addSigned 46 = .ok (.iload_n 1, 1) := by decide +kernel
theorem dX7_addSigned_47 : decode cX7_addSigned 47 = .ok (.iload_n 2, 1) := by decide +kernel
theorem dX7_addSigned_48 : decode cX7_addSigned 48 = .ok (.iload_n 3, 1) := by decide +kernel
theorem dX7_addSigned_49 : decode cX7_addSigned 49 = .ok (.iconst 1, 1) := by decide +kernel
theorem dX7_addSigned_50 : decode cX7_addSigned 50 = .ok (.invokevirtual 76, 3) := by decide +kernel
theorem dX7_addSigned_53 : decode cX7_addSigned 53 = .ok (.aload_n 0, 1) := by decide +kernel
theorem dX7_addSigned_54 : decode cX7_addSigned 54 = .ok (.getfield 27, 3) := by decide +kernel
theorem dX7_addSigned_57 : decode cX7_addSigned 57 = .ok (.iload_n 1, 1) := by decide +kernel
theorem dX7_addSigned_58 : decode cX7_addSigned 58 = .ok (.iload 6, 2) := by decide +kernel
theorem dX7_addSigned_60 : decode cX7_addSigned 60 = .ok (.iastore, 1) := by decide +kernel
theorem dX7_addSigned_61 : decode cX7_addSigned 61 = .ok (.goto 51, 3) := by decide +kernel
theorem dX7_addSigned_112 : decode cX7_addSigned 112 = .ok (.aload_n 0, 1) := by decide +kernel
theorem dX7_addSigned_113 : decode cX7_addSigned 113 = .ok (.iload_n 1, 1) := by decide +kernel
theorem dX7_addSigned_114 : decode cX7_addSigned 114 = .ok (.invokevirtual 65, 3) := by decide +kernel
theorem dX7_addSigned_117 : decode cX7_addSigned 117 = .ok (.return_, 1) := by decide +kernel
theorem dX7_addLimbs_0 : decode cX7_addLimbs 0 = .ok (.aload_n 0, 1) := by decide +kernel
theorem dX7_addLimbs_1 : decode cX7_addLimbs 1 = .ok (.getfield 23, 3) := by decide +kernel
theorem dX7_addLimbs_4 : decode cX7_addLimbs 4 = .ok (.iload_n 2, 1) := by decide +kernel
theorem dX7_addLimbs_5 : decode cX7_addLimbs 5 = .ok (.iaload, 1) := by decide +kernel
theorem dX7_addLimbs_6 : decode cX7_addLimbs 6 = .ok (.aload_n 0, 1) := by decide +kernel
theorem dX7_addLimbs_7 : decode cX7_addLimbs 7 = .ok (.getfield 23, 3) := by decide +kernel
theorem dX7_addLimbs_10 : decode cX7_addLimbs 10 = .ok (.iload_n 3, 1) := by decide +kernel
theorem dX7_addLimbs_11 : decode cX7_addLimbs 11 = .ok (.iaload, 1) := by decide +kernel
theorem dX7_addLimbs_12 : decode cX7_addLimbs 12 = .ok (.invokestatic 51, 3) := by decide +kernel
theorem dX7_addLimbs_15 : decode cX7_addLimbs 15 = .ok (.iconst 1, 1) := by decide +kernel
theorem dX7_addLimbs_16 : decode cX7_addLimbs 16 = .ok (.iadd, 1) := by decide +kernel
theorem dX7_addLimbs_17 : decode cX7_addLimbs 17 = .ok (.sipush 280, 3) := by decide +kernel
theorem dX7_addLimbs_20 : decode cX7_addLimbs 20 = .ok (.invokestatic 69, 3) := by decide +kernel
theorem dX7_addLimbs_23 : decode cX7_addLimbs 23 = .ok (.istore 5, 2) := by decide +kernel
theorem dX7_addLimbs_25 : decode cX7_addLimbs 25 = .ok (.lconst 0, 1) := by decide +kernel
theorem dX7_addLimbs_26 : decode cX7_addLimbs 26 = .ok (.lstore 6, 2) := by decide +kernel
theorem dX7_addLimbs_28 : decode cX7_addLimbs 28 = .ok (.iconst 0, 1) := by decide +kernel
theorem dX7_addLimbs_29 : decode cX7_addLimbs 29 = .ok (.istore 8, 2) := by decide +kernel
theorem dX7_addLimbs_31 : decode cX7_addLimbs 31 = .ok (.iload 8, 2) := by decide +kernel
theorem dX7_addLimbs_33 : decode cX7_addLimbs 33 = .ok (.iload 5, 2) := by decide +kernel
theorem dX7_addLimbs_35 : decode cX7_addLimbs 35 = .ok (.if_icmp .ge 52, 3) := by decide +kernel
theorem dX7_addLimbs_38 : decode cX7_addLimbs 38 = .ok (.aload_n 0, 1) := by decide +kernel
theorem dX7_addLimbs_39 : decode cX7_addLimbs 39 = .ok (.iload_n 2, 1) := by decide +kernel
theorem dX7_addLimbs_40 : decode cX7_addLimbs 40 = .ok (.iload 8, 2) := by decide +kernel
theorem dX7_addLimbs_42 : decode cX7_addLimbs 42 = .ok (.invokevirtual 72, 3) := by decide +kernel
theorem dX7_addLimbs_45 : decode cX7_addLimbs 45 = .ok (.iload 4, 2) := by decide +kernel
theorem dX7_addLimbs_47 : decode cX7_addLimbs 47 = .ok (.i2l, 1) := by decide +kernel
theorem dX7_addLimbs_48 : decode cX7_addLimbs 48 = .ok (.aload_n 0, 1) := by decide +kernel
theorem dX7_addLimbs_49 : decode cX7_addLimbs 49 = .ok (.iload_n 3, 1) := by decide +kernel
theorem dX7_addLimbs_50 : decode cX7_addLimbs 50 = .ok (.iload 8, 2) := by decide +kernel
theorem dX7_addLimbs_52 : decode cX7_addLimbs 52 = .ok (.invokevirtual 72, 3) := by decide +kernel
theorem dX7_addLimbs_55 : decode cX7_addLimbs 55 = .ok (.lmul, 1) := by decide +kernel
theorem dX7_addLimbs_56 : decode cX7_addLimbs 56 = .ok (.ladd, 1) := by decide +kernel
theorem dX7_addLimbs_57 : decode cX7_addLimbs 57 = .ok (.lload 6, 2) := by decide +kernel
theorem dX7_addLimbs_59 : decode cX7_addLimbs 59 = .ok (.ladd, 1) := by decide +kernel
theorem dX7_addLimbs_60 : decode cX7_addLimbs 60 = .ok (.lstore 9, 2) := by decide +kernel
theorem dX7_addLimbs_62 : decode cX7_addLimbs 62 = .ok (.aload_n 0, 1) := by decide +kernel
theorem dX7_addLimbs_63 : decode cX7_addLimbs 63 = .ok (.getfield 20, 3) := by decide +kernel
theorem dX7_addLimbs_66 : decode cX7_addLimbs 66 = .ok (.iload_n 1, 1) := by decide +kernel
theorem dX7_addLimbs_67 : decode cX7_addLimbs 67 = .ok (.aaload, 1) := by decide +kernel
theorem dX7_addLimbs_68 : decode cX7_addLimbs 68 = .ok (.iload 8, 2) := by decide +kernel
theorem dX7_addLimbs_70 : decode cX7_addLimbs 70 = .ok (.lload 9, 2) := by decide +kernel
theorem dX7_addLimbs_72 : decode cX7_addLimbs 72 = .ok (.l2i, 1) := by decide +kernel
theorem dX7_addLimbs_73 : decode cX7_addLimbs 73 = .ok (.iastore, 1) := by decide +kernel
theorem dX7_addLimbs_74 : decode cX7_addLimbs 74 = .ok (.lload 9, 2) := by decide +kernel
theorem dX7_addLimbs_76 : decode cX7_addLimbs 76 = .ok (.bipush 32, 2) := by decide +kernel
theorem dX7_addLimbs_78 : decode cX7_addLimbs 78 = .ok (.lshr, 1) := by decide +kernel
theorem dX7_addLimbs_79 : decode cX7_addLimbs 79 = .ok (.lstore 6, 2) := by decide +kernel
theorem dX7_addLimbs_81 : decode cX7_addLimbs 81 = .ok (.iinc 8 1, 3) := by decide +kernel
theorem dX7_addLimbs_84 : decode cX7_addLimbs 84 = .ok (.goto (-53), 3) := by decide +kernel
theorem dX7_addLimbs_87 : decode cX7_addLimbs 87 = .ok (.aload_n 0, 1) := by decide +kernel
theorem dX7_addLimbs_88 : decode cX7_addLimbs 88 = .ok (.getfield 23, 3) := by decide +kernel
theorem dX7_addLimbs_91 : decode cX7_addLimbs 91 = .ok (.iload_n 1, 1) := by decide +kernel
theorem dX7_addLimbs_92 : decode cX7_addLimbs 92 = .ok (.iload 5, 2) := by decide +kernel
theorem dX7_addLimbs_94 : decode cX7_addLimbs 94 = .ok (.iastore, 1) := by decide +kernel
theorem dX7_addLimbs_95 : decode cX7_addLimbs 95 = .ok (.return_, 1) := by decide +kernel
theorem dX7_limbAt_0 : decode cX7_limbAt 0 = .ok (.iload_n 2, 1) := by decide +kernel
theorem dX7_limbAt_1 : decode cX7_limbAt 1 = .ok (.aload_n 0, 1) := by decide +kernel
theorem dX7_limbAt_2 : decode cX7_limbAt 2 = .ok (.getfield 23, 3) := by decide +kernel
theorem dX7_limbAt_5 : decode cX7_limbAt 5 = .ok (.iload_n 1, 1) := by decide +kernel
theorem dX7_limbAt_6 : decode cX7_limbAt 6 = .ok (.iaload, 1) := by decide +kernel
theorem dX7_limbAt_7 : decode cX7_limbAt 7 = .ok (.if_icmp .ge 19, 3) := by decide +kernel
theorem dX7_limbAt_26 : decode cX7_limbAt 26 = .ok (.lconst 0, 1) := by decide +kernel
theorem dX7_limbAt_27 : decode cX7_limbAt 27 = .ok (.lreturn, 1) := by decide +kernel
theorem dX7_multiply_0 : decode cX7_multiply 0 = .ok (.aload_n 0, 1) := by decide +kernel
theorem dX7_multiply_1 : decode cX7_multiply 1 = .ok (.getfield 23, 3) := by decide +kernel
theorem dX7_multiply_4 : decode cX7_multiply 4 = .ok (.iload_n 2, 1) := by decide +kernel
theorem dX7_multiply_5 : decode cX7_multiply 5 = .ok (.iaload, 1) := by decide +kernel
theorem dX7_multiply_6 : decode cX7_multiply 6 = .ok (.aload_n 0, 1) := by decide +kernel
theorem dX7_multiply_7 : decode cX7_multiply 7 = .ok (.getfield 23, 3) := by decide +kernel
theorem dX7_multiply_10 : decode cX7_multiply 10 = .ok (.iload_n 3, 1) := by decide +kernel
theorem dX7_multiply_11 : decode cX7_multiply 11 = .ok (.iaload, 1) := by decide +kernel
theorem dX7_multiply_12 : decode cX7_multiply 12 = .ok (.iadd, 1) := by decide +kernel
theorem dX7_multiply_13 : decode cX7_multiply 13 = .ok (.sipush 280, 3) := by decide +kernel
theorem dX7_multiply_16 : decode cX7_multiply 16 = .ok (.invokestatic 69, 3) := by decide +kernel
theorem dX7_multiply_19 : decode cX7_multiply 19 = .ok (.istore 4, 2) := by decide +kernel
theorem dX7_multiply_21 : decode cX7_multiply 21 = .ok (.aload_n 0, 1) := by decide +kernel
theorem dX7_multiply_22 : decode cX7_multiply 22 = .ok (.getfield 20, 3) := by decide +kernel
theorem dX7_multiply_25 : decode cX7_multiply 25 = .ok (.iload_n 1, 1) := by decide +kernel
theorem dX7_multiply_26 : decode cX7_multiply 26 = .ok (.aaload, 1) := by decide +kernel
theorem dX7_multiply_27 : decode cX7_multiply 27 = .ok (.iconst 0, 1) := by decide +kernel
theorem dX7_multiply_28 : decode cX7_multiply 28 = .ok (.iload 4, 2) := by decide +kernel
theorem dX7_multiply_30 : decode cX7_multiply 30 = .ok (.iconst 0, 1) := by decide +kernel
theorem dX7_multiply_31 : decode cX7_multiply 31 = .ok (.invokestatic 57, 3) := by decide +kernel
theorem dX7_multiply_34 : decode cX7_multiply 34 = .ok (.iconst 0, 1) := by decide +kernel
theorem dX7_multiply_35 : decode cX7_multiply 35 = .ok (.istore 5, 2) := by decide +kernel
theorem dX7_multiply_37 : decode cX7_multiply 37 = .ok (.iload 5, 2) := by decide +kernel
theorem dX7_multiply_39 : decode cX7_multiply 39 = .ok (.aload_n 0, 1) := by decide +kernel
theorem dX7_multiply_40 : decode cX7_multiply 40 = .ok (.getfield 23, 3) := by decide +kernel
theorem dX7_multiply_43 : decode cX7_multiply 43 = .ok (.iload_n 2, 1) := by decide +kernel
theorem dX7_multiply_44 : decode cX7_multiply 44 = .ok (.iaload, 1) := by decide +kernel
theorem dX7_multiply_45 : decode cX7_multiply 45 = .ok (.if_icmp .ge 116, 3) := by decide +kernel
theorem dX7_multiply_161 : decode cX7_multiply 161 = .ok (.aload_n 0, 1) := by decide +kernel
theorem dX7_multiply_162 : decode cX7_multiply 162 = .ok (.getfield 23, 3) := by decide +kernel
theorem dX7_multiply_165 : decode cX7_multiply 165 = .ok (.iload_n 1, 1) := by decide +kernel
theorem dX7_multiply_166 : decode cX7_multiply 166 = .ok (.iload 4, 2) := by decide +kernel
theorem dX7_multiply_168 : decode cX7_multiply 168 = .ok (.iastore, 1) := by decide +kernel
theorem dX7_multiply_169 : decode cX7_multiply 169 = .ok (.aload_n 0, 1) := by decide +kernel
theorem dX7_multiply_170 : decode cX7_multiply 170 = .ok (.getfield 27, 3) := by decide +kernel
theorem dX7_multiply_173 : decode cX7_multiply 173 = .ok (.iload_n 1, 1) := by decide +kernel
theorem dX7_multiply_174 : decode cX7_multiply 174 = .ok (.aload_n 0, 1) := by decide +kernel
theorem dX7_multiply_175 : decode cX7_multiply 175 = .ok (.getfield 27, 3) := by decide +kernel
theorem dX7_multiply_178 : decode cX7_multiply 178 = .ok (.iload_n 2, 1) := by decide +kernel
theorem dX7_multiply_179 : decode cX7_multiply 179 = .ok (.iaload, 1) := by decide +kernel
theorem dX7_multiply_180 : decode cX7_multiply 180 = .ok (.aload_n 0, 1) := by decide +kernel
theorem dX7_multiply_181 : decode cX7_multiply 181 = .ok (.getfield 27, 3) := by decide +kernel
theorem dX7_multiply_184 : decode cX7_multiply 184 = .ok (.iload_n 3, 1) := by decide +kernel
theorem dX7_multiply_185 : decode cX7_multiply 185 = .ok (.iaload, 1) := by decide +kernel
theorem dX7_multiply_186 : decode cX7_multiply 186 = .ok (.imul, 1) := by decide +kernel
theorem dX7_multiply_187 : decode cX7_multiply 187 = .ok (.iastore, 1) := by decide +kernel
theorem dX7_multiply_188 : decode cX7_multiply 188 = .ok (.aload_n 0, 1) := by decide +kernel
theorem dX7_multiply_189 : decode cX7_multiply 189 = .ok (.iload_n 1, 1) := by decide +kernel
theorem dX7_multiply_190 : decode cX7_multiply 190 = .ok (.invokevirtual 65, 3) := by decide +kernel
theorem dX7_multiply_193 : decode cX7_multiply 193 = .ok (.return_, 1) := by decide +kernel
theorem dX12_between_0 : decode cX12_between 0 = .ok (.aload_n 0, 1) := by decide +kernel
theorem dX12_between_1 : decode cX12_between 1 = .ok (.bipush 18, 2) := by decide +kernel
theorem dX12_between_3 : decode cX12_between 3 = .ok (.iload_n 2, 1) := by decide +kernel
theorem dX12_between_4 : decode cX12_between 4 = .ok (.ifCond .eq 12, 3) := by decide +kernel
theorem dX12_between_7 : decode cX12_between 7 = .ok (.aload_n 0, 1) := by decide +kernel
theorem dX12_between_8 : decode cX12_between 8 = .ok (.getfield 72, 3) := by decide +kernel
theorem dX12_between_11 : decode cX12_between 11 = .ok (.iload_n 3, 1) := by decide +kernel
theorem dX12_between_12 : decode cX12_between 12 = .ok (.laload, 1) := by decide +kernel
theorem dX12_between_13 : decode cX12_between 13 = .ok (.goto 9, 3) := by decide +kernel
theorem dX12_between_16 : decode cX12_between 16 = .ok (.aload_n 0, 1) := by decide +kernel
theorem dX12_between_17 : decode cX12_between 17 = .ok (.getfield 75, 3) := by decide +kernel
theorem dX12_between_20 : decode cX12_between 20 = .ok (.iload_n 3, 1) := by decide +kernel
theorem dX12_between_21 : decode cX12_between 21 = .ok (.laload, 1) := by decide +kernel
theorem dX12_between_22 : decode cX12_between 22 = .ok (.invokevirtual 617, 3) := by decide +kernel
theorem dX12_between_25 : decode cX12_between 25 = .ok (.aload_n 0, 1) := by decide +kernel
theorem dX12_between_26 : decode cX12_between 26 = .ok (.bipush 19, 2) := by decide +kernel
theorem dX12_between_28 : decode cX12_between 28 = .ok (.iload_n 2, 1) := by decide +kernel
theorem dX12_between_29 : decode cX12_between 29 = .ok (.ifCond .eq 13, 3) := by decide +kernel
theorem dX12_between_32 : decode cX12_between 32 = .ok (.aload_n 0, 1) := by decide +kernel
theorem dX12_between_33 : decode cX12_between 33 = .ok (.getfield 72, 3) := by decide +kernel
theorem dX12_between_36 : decode cX12_between 36 = .ok (.iload 4, 2) := by decide +kernel
theorem dX12_between_38 : decode cX12_between 38 = .ok (.laload, 1) := by decide +kernel
theorem dX12_between_39 : decode cX12_between 39 = .ok (.goto 10, 3) := by decide +kernel
theorem dX12_between_42 : decode cX12_between 42 = .ok (.aload_n 0, 1) := by decide +kernel
theorem dX12_between_43 : decode cX12_between 43 = .ok (.getfield 75, 3) := by decide +kernel
theorem dX12_between_46 : decode cX12_between 46 = .ok (.iload 4, 2) := by decide +kernel
theorem dX12_between_48 : decode cX12_between 48 = .ok (.laload, 1) := by decide +kernel
theorem dX12_between_49 : decode cX12_between 49 = .ok (.invokevirtual 617, 3) := by decide +kernel
theorem dX12_between_52 : decode cX12_between 52 = .ok (.aload_n 0, 1) := by decide +kernel
theorem dX12_between_53 : decode cX12_between 53 = .ok (.iload_n 1, 1) := by decide +kernel
theorem dX12_between_54 : decode cX12_between 54 = .ok (.bipush 18, 2) := by decide +kernel
theorem dX12_between_56 : decode cX12_between 56 = .ok (.bipush 19, 2) := by decide +kernel
theorem dX12_between_58 : decode cX12_between 58 = .ok (.iconst 1, 1) := by decide +kernel
theorem dX12_between_59 : decode cX12_between 59 = .ok (.invokevirtual 621, 3) := by decide +kernel
theorem dX12_between_62 : decode cX12_between 62 = .ok (.return_, 1) := by decide +kernel
theorem dX12_load_0 : decode cX12_load 0 = .ok (.lload_n 2, 1) := by decide +kernel
theorem dX12_load_1 : decode cX12_load 1 = .ok (.bipush 52, 2) := by decide +kernel
theorem dX12_load_3 : decode cX12_load 3 = .ok (.lushr, 1) := by decide +kernel
theorem dX12_load_4 : decode cX12_load 4 = .ok (.ldc2_w 497, 3) := by decide +kernel
theorem dX12_load_7 : decode cX12_load 7 = .ok (.land, 1) := by decide +kernel
theorem dX12_load_8 : decode cX12_load 8 = .ok (.l2i, 1) := by decide +kernel
theorem dX12_load_9 : decode cX12_load 9 = .ok (.istore 4, 2) := by decide +kernel
theorem dX12_load_11 : decode cX12_load 11 = .ok (.lload_n 2, 1) := by decide +kernel
theorem dX12_load_12 : decode cX12_load 12 = .ok (.ldc2_w 499, 3) := by decide +kernel
theorem dX12_load_15 : decode cX12_load 15 = .ok (.land, 1) := by decide +kernel
theorem dX12_load_16 : decode cX12_load 16 = .ok (.lstore 5, 2) := by decide +kernel
theorem dX12_load_18 : decode cX12_load 18 = .ok (.iload 4, 2) := by decide +kernel
theorem dX12_load_20 : decode cX12_load 20 = .ok (.ifCond .ne 8, 3) := by decide +kernel
theorem dX12_load_23 : decode cX12_load 23 = .ok (.lload 5, 2) := by decide +kernel
theorem dX12_load_25 : decode cX12_load 25 = .ok (.goto 9, 3) := by decide +kernel
theorem dX12_load_34 : decode cX12_load 34 = .ok (.lstore 5, 2) := by decide +kernel
theorem dX12_load_36 : decode cX12_load 36 = .ok (.iload 4, 2) := by decide +kernel
theorem dX12_load_38 : decode cX12_load 38 = .ok (.ifCond .ne 7, 3) := by decide +kernel
theorem dX12_load_41 : decode cX12_load 41 = .ok (.iconst 0, 1) := by decide +kernel
theorem dX12_load_42 : decode cX12_load 42 = .ok (.goto 7, 3) := by decide +kernel
theorem dX12_load_49 : decode cX12_load 49 = .ok (.istore 7, 2) := by decide +kernel
theorem dX12_load_51 : decode cX12_load 51 = .ok (.iload 7, 2) := by decide +kernel
theorem dX12_load_53 : decode cX12_load 53 = .ok (.bipush 32, 2) := by decide +kernel
theorem dX12_load_55 : decode cX12_load 55 = .ok (.idiv, 1) := by decide +kernel
theorem dX12_load_56 : decode cX12_load 56 = .ok (.istore 8, 2) := by decide +kernel
theorem dX12_load_58 : decode cX12_load 58 = .ok (.iload 7, 2) := by decide +kernel
theorem dX12_load_60 : decode cX12_load 60 = .ok (.bipush 32, 2) := by decide +kernel
theorem dX12_load_62 : decode cX12_load 62 = .ok (.irem, 1) := by decide +kernel
theorem dX12_load_63 : decode cX12_load 63 = .ok (.istore 9, 2) := by decide +kernel
theorem dX12_load_65 : decode cX12_load 65 = .ok (.iconst 0, 1) := by decide +kernel
theorem dX12_load_66 : decode cX12_load 66 = .ok (.istore 10, 2) := by decide +kernel
theorem dX12_load_68 : decode cX12_load 68 = .ok (.iload 10, 2) := by decide +kernel
theorem dX12_load_70 : decode cX12_load 70 = .ok (.iload 8, 2) := by decide +kernel
theorem dX12_load_72 : decode cX12_load 72 = .ok (.if_icmp .ge 23, 3) := by decide +kernel
theorem dX12_load_95 : decode cX12_load 95 = .ok (.lload 5, 2) := by decide +kernel
theorem dX12_load_97 : decode cX12_load 97 = .ok (.ldc2_w 598, 3) := by decide +kernel
theorem dX12_load_100 : decode cX12_load 100 = .ok (.land, 1) := by decide +kernel
theorem dX12_load_101 : decode cX12_load 101 = .ok (.iload 9, 2) := by decide +kernel
theorem dX12_load_103 : decode cX12_load 103 = .ok (.lshl, 1) := by decide +kernel
theorem dX12_load_104 : decode cX12_load 104 = .ok (.lstore 10, 2) := by decide +kernel
theorem dX12_load_106 : decode cX12_load 106 = .ok (.lload 5, 2) := by decide +kernel
theorem dX12_load_108 : decode cX12_load 108 = .ok (.bipush 32, 2) := by decide +kernel
theorem dX12_load_110 : decode cX12_load 110 = .ok (.lushr, 1) := by decide +kernel
theorem dX12_load_111 : decode cX12_load 111 = .ok (.iload 9, 2) := by decide +kernel
theorem dX12_load_113 : decode cX12_load 113 = .ok (.lshl, 1) := by decide +kernel
theorem dX12_load_114 : decode cX12_load 114 = .ok (.lload 10, 2) := by decide +kernel
theorem dX12_load_116 : decode cX12_load 116 = .ok (.bipush 32, 2) := by decide +kernel
theorem dX12_load_118 : decode cX12_load 118 = .ok (.lushr, 1) := by decide +kernel
theorem dX12_load_119 : decode cX12_load 119 = .ok (.ladd, 1) := by decide +kernel
theorem dX12_load_120 : decode cX12_load 120 = .ok (.lstore 12, 2) := by decide +kernel
theorem dX12_load_122 : decode cX12_load 122 = .ok (.aload_n 0, 1) := by decide +kernel
theorem dX12_load_123 : decode cX12_load 123 = .ok (.getfield 63, 3) := by decide +kernel
theorem dX12_load_126 : decode cX12_load 126 = .ok (.sipush 300, 3) := by decide +kernel
theorem dX12_load_129 : decode cX12_load 129 = .ok (.iload_n 1, 1) := by decide +kernel
theorem dX12_load_130 : decode cX12_load 130 = .ok (.imul, 1) := by decide +kernel
theorem dX12_load_131 : decode cX12_load 131 = .ok (.iload 8, 2) := by decide +kernel
theorem dX12_load_133 : decode cX12_load 133 = .ok (.iadd, 1) := by decide +kernel
theorem dX12_load_134 : decode cX12_load 134 = .ok (.lload 10, 2) := by decide +kernel
theorem dX12_load_136 : decode cX12_load 136 = .ok (.ldc2_w 598, 3) := by decide +kernel
theorem dX12_load_139 : decode cX12_load 139 = .ok (.land, 1) := by decide +kernel
theorem dX12_load_140 : decode cX12_load 140 = .ok (.lastore, 1) := by decide +kernel
theorem dX12_load_141 : decode cX12_load 141 = .ok (.aload_n 0, 1) := by decide +kernel
theorem dX12_load_142 : decode cX12_load 142 = .ok (.getfield 63, 3) := by decide +kernel
theorem dX12_load_145 : decode cX12_load 145 = .ok (.sipush 300, 3) := by decide +kernel
theorem dX12_load_148 : decode cX12_load 148 = .ok (.iload_n 1, 1) := by decide +kernel
theorem dX12_load_149 : decode cX12_load 149 = .ok (.imul, 1) := by decide +kernel
theorem dX12_load_150 : decode cX12_load 150 = .ok (.iload 8, 2) := by decide +kernel
theorem dX12_load_152 : decode cX12_load 152 = .ok (.iadd, 1) := by decide +kernel
theorem dX12_load_153 : decode cX12_load 153 = .ok (.iconst 1, 1) := by decide +kernel
theorem dX12_load_154 : decode cX12_load 154 = .ok (.iadd, 1) := by decide +kernel
theorem dX12_load_155 : decode cX12_load 155 = .ok (.lload 12, 2) := by decide +kernel
theorem dX12_load_157 : decode cX12_load 157 = .ok (.ldc2_w 598, 3) := by decide +kernel
theorem dX12_load_160 : decode cX12_load 160 = .ok (.land, 1) := by decide +kernel
theorem dX12_load_161 : decode cX12_load 161 = .ok (.lastore, 1) := by decide +kernel
theorem dX12_load_162 : decode cX12_load 162 = .ok (.aload_n 0, 1) := by decide +kernel
theorem dX12_load_163 : decode cX12_load 163 = .ok (.getfield 63, 3) := by decide +kernel
theorem dX12_load_166 : decode cX12_load 166 = .ok (.sipush 300, 3) := by decide +kernel
theorem dX12_load_169 : decode cX12_load 169 = .ok (.iload_n 1, 1) := by decide +kernel
theorem dX12_load_170 : decode cX12_load 170 = .ok (.imul, 1) := by decide +kernel
theorem dX12_load_171 : decode cX12_load 171 = .ok (.iload 8, 2) := by decide +kernel
theorem dX12_load_173 : decode cX12_load 173 = .ok (.iadd, 1) := by decide +kernel
theorem dX12_load_174 : decode cX12_load 174 = .ok (.iconst 2, 1) := by decide +kernel
theorem dX12_load_175 : decode cX12_load 175 = .ok (.iadd, 1) := by decide +kernel
theorem dX12_load_176 : decode cX12_load 176 = .ok (.lload 12, 2) := by decide +kernel
theorem dX12_load_178 : decode cX12_load 178 = .ok (.bipush 32, 2) := by decide +kernel
theorem dX12_load_180 : decode cX12_load 180 = .ok (.lushr, 1) := by decide +kernel
theorem dX12_load_181 : decode cX12_load 181 = .ok (.lastore, 1) := by decide +kernel
theorem dX12_load_182 : decode cX12_load 182 = .ok (.aload_n 0, 1) := by decide +kernel
theorem dX12_load_183 : decode cX12_load 183 = .ok (.getfield 66, 3) := by decide +kernel
theorem dX12_load_186 : decode cX12_load 186 = .ok (.iload_n 1, 1) := by decide +kernel
theorem dX12_load_187 : decode cX12_load 187 = .ok (.iload 8, 2) := by decide +kernel
theorem dX12_load_189 : decode cX12_load 189 = .ok (.iconst 3, 1) := by decide +kernel
theorem dX12_load_190 : decode cX12_load 190 = .ok (.iadd, 1) := by decide +kernel
theorem dX12_load_191 : decode cX12_load 191 = .ok (.iastore, 1) := by decide +kernel
theorem dX12_load_192 : decode cX12_load 192 = .ok (.aload_n 0, 1) := by decide +kernel
theorem dX12_load_193 : decode cX12_load 193 = .ok (.getfield 69, 3) := by decide +kernel
theorem dX12_load_196 : decode cX12_load 196 = .ok (.iload_n 1, 1) := by decide +kernel
theorem dX12_load_197 : decode cX12_load 197 = .ok (.lload_n 2, 1) := by decide +kernel
theorem dX12_load_198 : decode cX12_load 198 = .ok (.lconst 0, 1) := by decide +kernel
theorem dX12_load_199 : decode cX12_load 199 = .ok (.lcmp, 1) := by decide +kernel
theorem dX12_load_200 : decode cX12_load 200 = .ok (.ifCond .ge 7, 3) := by decide +kernel
theorem dX12_load_207 : decode cX12_load 207 = .ok (.iconst 1, 1) := by decide +kernel
theorem dX12_load_208 : decode cX12_load 208 = .ok (.iastore, 1) := by decide +kernel
theorem dX12_load_209 : decode cX12_load 209 = .ok (.aload_n 0, 1) := by decide +kernel
theorem dX12_load_210 : decode cX12_load 210 = .ok (.iload_n 1, 1) := by decide +kernel
theorem dX12_load_211 : decode cX12_load 211 = .ok (.invokevirtual 600, 3) := by decide +kernel
theorem dX12_load_214 : decode cX12_load 214 = .ok (.return_, 1) := by decide +kernel
theorem dX12_trim_0 : decode cX12_trim 0 = .ok (.aload_n 0, 1) := by decide +kernel
theorem dX12_trim_1 : decode cX12_trim 1 = .ok (.getfield 66, 3) := by decide +kernel
theorem dX12_trim_4 : decode cX12_trim 4 = .ok (.iload_n 1, 1) := by decide +kernel
theorem dX12_trim_5 : decode cX12_trim 5 = .ok (.iaload, 1) := by decide +kernel
theorem dX12_trim_6 : decode cX12_trim 6 = .ok (.ifCond .le 40, 3) := by decide +kernel
theorem dX12_trim_9 : decode cX12_trim 9 = .ok (.aload_n 0, 1) := by decide +kernel
theorem dX12_trim_10 : decode cX12_trim 10 = .ok (.getfield 63, 3) := by decide +kernel
theorem dX12_trim_13 : decode cX12_trim 13 = .ok (.sipush 300, 3) := by decide +kernel
theorem dX12_trim_16 : decode cX12_trim 16 = .ok (.iload_n 1, 1) := by decide +kernel
theorem dX12_trim_17 : decode cX12_trim 17 = .ok (.imul, 1) := by decide +kernel
theorem dX12_trim_18 : decode cX12_trim 18 = .ok (.aload_n 0, 1) := by decide +kernel
theorem dX12_trim_19 : decode cX12_trim 19 = .ok (.getfield 66, 3) := by decide +kernel
theorem dX12_trim_22 : decode cX12_trim 22 = .ok (.iload_n 1, 1) := by decide +kernel
theorem dX12_trim_23 : decode cX12_trim 23 = .ok (.iaload, 1) := by decide +kernel
theorem dX12_trim_24 : decode cX12_trim 24 = .ok (.iadd, 1) := by decide +kernel
theorem dX12_trim_25 : decode cX12_trim 25 = .ok (.iconst 1, 1) := by decide +kernel
theorem dX12_trim_26 : decode cX12_trim 26 = .ok (.isub, 1) := by decide +kernel
theorem dX12_trim_27 : decode cX12_trim 27 = .ok (.laload, 1) := by decide +kernel
theorem dX12_trim_28 : decode cX12_trim 28 = .ok (.lconst 0, 1) := by decide +kernel
theorem dX12_trim_29 : decode cX12_trim 29 = .ok (.lcmp, 1) := by decide +kernel
theorem dX12_trim_30 : decode cX12_trim 30 = .ok (.ifCond .ne 16, 3) := by decide +kernel
theorem dX12_trim_33 : decode cX12_trim 33 = .ok (.aload_n 0, 1) := by decide +kernel
theorem dX12_trim_34 : decode cX12_trim 34 = .ok (.getfield 66, 3) := by decide +kernel
theorem dX12_trim_37 : decode cX12_trim 37 = .ok (.iload_n 1, 1) := by decide +kernel
theorem dX12_trim_38 : decode cX12_trim 38 = .ok (.dup2, 1) := by decide +kernel
theorem dX12_trim_39 : decode cX12_trim 39 = .ok (.iaload, 1) := by decide +kernel
theorem dX12_trim_40 : decode cX12_trim 40 = .ok (.iconst 1, 1) := by decide +kernel
theorem dX12_trim_41 : decode cX12_trim 41 = .ok (.isub, 1) := by decide +kernel
theorem dX12_trim_42 : decode cX12_trim 42 = .ok (.iastore, 1) := by decide +kernel
theorem dX12_trim_43 : decode cX12_trim 43 = .ok (.goto (-43), 3) := by decide +kernel
theorem dX12_trim_46 : decode cX12_trim 46 = .ok (.aload_n 0, 1) := by decide +kernel
theorem dX12_trim_47 : decode cX12_trim 47 = .ok (.getfield 66, 3) := by decide +kernel
theorem dX12_trim_50 : decode cX12_trim 50 = .ok (.iload_n 1, 1) := by decide +kernel
theorem dX12_trim_51 : decode cX12_trim 51 = .ok (.iaload, 1) := by decide +kernel
theorem dX12_trim_52 : decode cX12_trim 52 = .ok (.ifCond .ne 10, 3) := by decide +kernel
theorem dX12_trim_55 : decode cX12_trim 55 = .ok (.aload_n 0, 1) := by decide +kernel
theorem dX12_trim_56 : decode cX12_trim 56 = .ok (.getfield 69, 3) := by decide +kernel
theorem dX12_trim_59 : decode cX12_trim 59 = .ok (.iload_n 1, 1) := by decide +kernel
theorem dX12_trim_60 : decode cX12_trim 60 = .ok (.iconst 0, 1) := by decide +kernel
theorem dX12_trim_61 : decode cX12_trim 61 = .ok (.iastore, 1) := by decide +kernel
theorem dX12_trim_62 : decode cX12_trim 62 = .ok (.return_, 1) := by decide +kernel
theorem dX12_add_0 : decode cX12_add 0 = .ok (.aload_n 0, 1) := by decide +kernel
theorem dX12_add_1 : decode cX12_add 1 = .ok (.getfield 69, 3) := by decide +kernel
theorem dX12_add_4 : decode cX12_add 4 = .ok (.iload_n 2, 1) := by decide +kernel
theorem dX12_add_5 : decode cX12_add 5 = .ok (.iaload, 1) := by decide +kernel
theorem dX12_add_6 : decode cX12_add 6 = .ok (.istore 5, 2) := by decide +kernel
theorem dX12_add_8 : decode cX12_add 8 = .ok (.iload 4, 2) := by decide +kernel
theorem dX12_add_10 : decode cX12_add 10 = .ok (.ifCond .eq 13, 3) := by decide +kernel
theorem dX12_add_13 : decode cX12_add 13 = .ok (.aload_n 0, 1) := by decide +kernel
theorem dX12_add_14 : decode cX12_add 14 = .ok (.getfield 69, 3) := by decide +kernel
theorem dX12_add_17 : decode cX12_add 17 = .ok (.iload_n 3, 1) := by decide +kernel
theorem dX12_add_18 : decode cX12_add 18 = .ok (.iaload, 1) := by decide +kernel
theorem dX12_add_19 : decode cX12_add 19 = .ok (.ineg, 1) := by decide +kernel
theorem dX12_add_20 : decode cX12_add 20 = .ok (.goto 9, 3) := by decide +kernel
theorem dX12_add_29 : decode cX12_add 29 = .ok (.istore 6, 2) := by decide +kernel
theorem dX12_add_31 : decode cX12_add 31 = .ok (.iload 5, 2) := by decide +kernel
theorem dX12_add_33 : decode cX12_add 33 = .ok (.ifCond .eq 15, 3) := by decide +kernel
theorem dX12_add_48 : decode cX12_add 48 = .ok (.aload_n 0, 1) := by decide +kernel
theorem dX12_add_49 : decode cX12_add 49 = .ok (.iload_n 1, 1) := by decide +kernel
theorem dX12_add_50 : decode cX12_add 50 = .ok (.iload_n 2, 1) := by decide +kernel
theorem dX12_add_51 : decode cX12_add 51 = .ok (.iload_n 3, 1) := by decide +kernel
theorem dX12_add_52 : decode cX12_add 52 = .ok (.invokevirtual 606, 3) := by decide +kernel
theorem dX12_add_55 : decode cX12_add 55 = .ok (.aload_n 0, 1) := by decide +kernel
theorem dX12_add_56 : decode cX12_add 56 = .ok (.getfield 69, 3) := by decide +kernel
theorem dX12_add_59 : decode cX12_add 59 = .ok (.iload_n 1, 1) := by decide +kernel
theorem dX12_add_60 : decode cX12_add 60 = .ok (.iload 5, 2) := by decide +kernel
theorem dX12_add_62 : decode cX12_add 62 = .ok (.ifCond .ne 8, 3) := by decide +kernel
theorem dX12_add_65 : decode cX12_add 65 = .ok (.iload 6, 2) := by decide +kernel
theorem dX12_add_67 : decode cX12_add 67 = .ok (.goto 5, 3) := by decide +kernel
theorem dX12_add_72 : decode cX12_add 72 = .ok (.iastore, 1) := by decide +kernel
theorem dX12_add_73 : decode cX12_add 73 = .ok (.goto 45, 3) := by decide +kernel
theorem dX12_add_118 : decode cX12_add 118 = .ok (.aload_n 0, 1) := by decide +kernel
theorem dX12_add_119 : decode cX12_add 119 = .ok (.iload_n 1, 1) := by decide +kernel
theorem dX12_add_120 : decode cX12_add 120 = .ok (.invokevirtual 600, 3) := by decide +kernel
theorem dX12_add_123 : decode cX12_add 123 = .ok (.return_, 1) := by decide +kernel
theorem dX12_addSizes_0 : decode cX12_addSizes 0 = .ok (.aload_n 0, 1) := by decide +kernel
theorem dX12_addSizes_1 : decode cX12_addSizes 1 = .ok (.getfield 66, 3) := by decide +kernel
theorem dX12_addSizes_4 : decode cX12_addSizes 4 = .ok (.iload_n 2, 1) := by decide +kernel
theorem dX12_addSizes_5 : decode cX12_addSizes 5 = .ok (.iaload, 1) := by decide +kernel
theorem dX12_addSizes_6 : decode cX12_addSizes 6 = .ok (.aload_n 0, 1) := by decide +kernel
theorem dX12_addSizes_7 : decode cX12_addSizes 7 = .ok (.getfield 66, 3) := by decide +kernel
theorem dX12_addSizes_10 : decode cX12_addSizes 10 = .ok (.iload_n 3, 1) := by decide +kernel
theorem dX12_addSizes_11 : decode cX12_addSizes 11 = .ok (.iaload, 1) := by decide +kernel
theorem dX12_addSizes_12 : decode cX12_addSizes 12 = .ok (.if_icmp .le 12, 3) := by decide +kernel
theorem dX12_addSizes_24 : decode cX12_addSizes 24 = .ok (.aload_n 0, 1) := by decide +kernel
theorem dX12_addSizes_25 : decode cX12_addSizes 25 = .ok (.getfield 66, 3) := by decide +kernel
theorem dX12_addSizes_28 : decode cX12_addSizes 28 = .ok (.iload_n 3, 1) := by decide +kernel
theorem dX12_addSizes_29 : decode cX12_addSizes 29 = .ok (.iaload, 1) := by decide +kernel
theorem dX12_addSizes_30 : decode cX12_addSizes 30 = .ok (.iconst 1, 1) := by decide +kernel
theorem dX12_addSizes_31 : decode cX12_addSizes 31 = .ok (.iadd, 1) := by decide +kernel
theorem dX12_addSizes_32 : decode cX12_addSizes 32 = .ok (.istore 4, 2) := by decide +kernel
theorem dX12_addSizes_34 : decode cX12_addSizes 34 = .ok (.lconst 0, 1) := by decide +kernel
theorem dX12_addSizes_35 : decode cX12_addSizes 35 = .ok (.lstore 5, 2) := by decide +kernel
theorem dX12_addSizes_37 : decode cX12_addSizes 37 = .ok (.iconst 0, 1) := by decide +kernel
theorem dX12_addSizes_38 : decode cX12_addSizes 38 = .ok (.istore 7, 2) := by decide +kernel
theorem dX12_addSizes_40 : decode cX12_addSizes 40 = .ok (.iload 7, 2) := by decide +kernel
theorem dX12_addSizes_42 : decode cX12_addSizes 42 = .ok (.iload 4, 2) := by decide +kernel
theorem dX12_addSizes_44 : decode cX12_addSizes 44 = .ok (.if_icmp .ge 55, 3) := by decide +kernel
theorem dX12_addSizes_47 : decode cX12_addSizes 47 = .ok (.lload 5, 2) := by decide +kernel
theorem dX12_addSizes_49 : decode cX12_addSizes 49 = .ok (.aload_n 0, 1) := by decide +kernel
theorem dX12_addSizes_50 : decode cX12_addSizes 50 = .ok (.iload_n 2, 1) := by decide +kernel
theorem dX12_addSizes_51 : decode cX12_addSizes 51 = .ok (.iload 7, 2) := by decide +kernel
theorem dX12_addSizes_53 : decode cX12_addSizes 53 = .ok (.invokevirtual 603, 3) := by decide +kernel
theorem dX12_addSizes_56 : decode cX12_addSizes 56 = .ok (.aload_n 0, 1) := by decide +kernel
theorem dX12_addSizes_57 : decode cX12_addSizes 57 = .ok (.iload_n 3, 1) := by decide +kernel
theorem dX12_addSizes_58 : decode cX12_addSizes 58 = .ok (.iload 7, 2) := by decide +kernel
theorem dX12_addSizes_60 : decode cX12_addSizes 60 = .ok (.invokevirtual 603, 3) := by decide +kernel
theorem dX12_addSizes_63 : decode cX12_addSizes 63 = .ok (.ladd, 1) := by decide +kernel
theorem dX12_addSizes_64 : decode cX12_addSizes 64 = .ok (.ladd, 1) := by decide +kernel
theorem dX12_addSizes_65 : decode cX12_addSizes 65 = .ok (.lstore 5, 2) := by decide +kernel
theorem dX12_addSizes_67 : decode cX12_addSizes 67 = .ok (.aload_n 0, 1) := by decide +kernel
theorem dX12_addSizes_68 : decode cX12_addSizes 68 = .ok (.getfield 63, 3) := by decide +kernel
theorem dX12_addSizes_71 : decode cX12_addSizes 71 = .ok (.sipush 300, 3) := by decide +kernel
theorem dX12_addSizes_74 : decode cX12_addSizes 74 = .ok (.iload_n 1, 1) := by decide +kernel
theorem dX12_addSizes_75 : decode cX12_addSizes 75 = .ok (.imul, 1) := by decide +kernel
theorem dX12_addSizes_76 : decode cX12_addSizes 76 = .ok (.iload 7, 2) := by decide +kernel
theorem dX12_addSizes_78 : decode cX12_addSizes 78 = .ok (.iadd, 1) := by decide +kernel
theorem dX12_addSizes_79 : decode cX12_addSizes 79 = .ok (.lload 5, 2) := by decide +kernel
theorem dX12_addSizes_81 : decode cX12_addSizes 81 = .ok (.ldc2_w 598, 3) := by decide +kernel
theorem dX12_addSizes_84 : decode cX12_addSizes 84 = .ok (.land, 1) := by decide +kernel
theorem dX12_addSizes_85 : decode cX12_addSizes 85 = .ok (.lastore, 1) := by decide +kernel
theorem dX12_addSizes_86 : decode cX12_addSizes 86 = .ok (.lload 5, 2) := by decide +kernel
theorem dX12_addSizes_88 : decode cX12_addSizes 88 = .ok (.bipush 32, 2) := by decide +kernel
theorem dX12_addSizes_90 : decode cX12_addSizes 90 = .ok (.lushr, 1) := by decide +kernel
theorem dX12_addSizes_91 : decode cX12_addSizes 91 = .ok (.lstore 5, 2) := by decide +kernel
theorem dX12_addSizes_93 : decode cX12_addSizes 93 = .ok (.iinc 7 1, 3) := by decide +kernel
theorem dX12_addSizes_96 : decode cX12_addSizes 96 = .ok (.goto (-56), 3) := by decide +kernel
theorem dX12_addSizes_99 : decode cX12_addSizes 99 = .ok (.aload_n 0, 1) := by decide +kernel
theorem dX12_addSizes_100 : decode cX12_addSizes 100 = .ok (.getfield 66, 3) := by decide +kernel
theorem dX12_addSizes_103 : decode cX12_addSizes 103 = .ok (.iload_n 1, 1) := by decide +kernel
theorem dX12_addSizes_104 : decode cX12_addSizes 104 = .ok (.iload 4, 2) := by decide +kernel
theorem dX12_addSizes_106 : decode cX12_addSizes 106 = .ok (.iastore, 1) := by decide +kernel
theorem dX12_addSizes_107 : decode cX12_addSizes 107 = .ok (.return_, 1) := by decide +kernel
theorem dX12_limb_0 : decode cX12_limb 0 = .ok (.iload_n 2, 1) := by decide +kernel
theorem dX12_limb_1 : decode cX12_limb 1 = .ok (.aload_n 0, 1) := by decide +kernel
theorem dX12_limb_2 : decode cX12_limb 2 = .ok (.getfield 66, 3) := by decide +kernel
theorem dX12_limb_5 : decode cX12_limb 5 = .ok (.iload_n 1, 1) := by decide +kernel
theorem dX12_limb_6 : decode cX12_limb 6 = .ok (.iaload, 1) := by decide +kernel
theorem dX12_limb_7 : decode cX12_limb 7 = .ok (.if_icmp .ge 18, 3) := by decide +kernel
theorem dX12_limb_25 : decode cX12_limb 25 = .ok (.lconst 0, 1) := by decide +kernel
theorem dX12_limb_26 : decode cX12_limb 26 = .ok (.lreturn, 1) := by decide +kernel
theorem dX12_times_0 : decode cX12_times 0 = .ok (.aload_n 0, 1) := by decide +kernel
theorem dX12_times_1 : decode cX12_times 1 = .ok (.getfield 66, 3) := by decide +kernel
theorem dX12_times_4 : decode cX12_times 4 = .ok (.iload_n 2, 1) := by decide +kernel
theorem dX12_times_5 : decode cX12_times 5 = .ok (.iaload, 1) := by decide +kernel
theorem dX12_times_6 : decode cX12_times 6 = .ok (.aload_n 0, 1) := by decide +kernel
theorem dX12_times_7 : decode cX12_times 7 = .ok (.getfield 66, 3) := by decide +kernel
theorem dX12_times_10 : decode cX12_times 10 = .ok (.iload_n 3, 1) := by decide +kernel
theorem dX12_times_11 : decode cX12_times 11 = .ok (.iaload, 1) := by decide +kernel
theorem dX12_times_12 : decode cX12_times 12 = .ok (.iadd, 1) := by decide +kernel
theorem dX12_times_13 : decode cX12_times 13 = .ok (.istore 4, 2) := by decide +kernel
theorem dX12_times_15 : decode cX12_times 15 = .ok (.iconst 0, 1) := by decide +kernel
theorem dX12_times_16 : decode cX12_times 16 = .ok (.istore 5, 2) := by decide +kernel
theorem dX12_times_18 : decode cX12_times 18 = .ok (.iload 5, 2) := by decide +kernel
theorem dX12_times_20 : decode cX12_times 20 = .ok (.iload 4, 2) := by decide +kernel
theorem dX12_times_22 : decode cX12_times 22 = .ok (.if_icmp .ge 23, 3) := by decide +kernel
theorem dX12_times_45 : decode cX12_times 45 = .ok (.iconst 0, 1) := by decide +kernel
theorem dX12_times_46 : decode cX12_times 46 = .ok (.istore 5, 2) := by decide +kernel
theorem dX12_times_48 : decode cX12_times 48 = .ok (.iload 5, 2) := by decide +kernel
theorem dX12_times_50 : decode cX12_times 50 = .ok (.aload_n 0, 1) := by decide +kernel
theorem dX12_times_51 : decode cX12_times 51 = .ok (.getfield 66, 3) := by decide +kernel
theorem dX12_times_54 : decode cX12_times 54 = .ok (.iload_n 2, 1) := by decide +kernel
theorem dX12_times_55 : decode cX12_times 55 = .ok (.iaload, 1) := by decide +kernel
theorem dX12_times_56 : decode cX12_times 56 = .ok (.if_icmp .ge 132, 3) := by decide +kernel
theorem dX12_times_188 : decode cX12_times 188 = .ok (.aload_n 0, 1) := by decide +kernel
theorem dX12_times_189 : decode cX12_times 189 = .ok (.getfield 66, 3) := by decide +kernel
theorem dX12_times_192 : decode cX12_times 192 = .ok (.iload_n 1, 1) := by decide +kernel
theorem dX12_times_193 : decode cX12_times 193 = .ok (.iload 4, 2) := by decide +kernel
theorem dX12_times_195 : decode cX12_times 195 = .ok (.iastore, 1) := by decide +kernel
theorem dX12_times_196 : decode cX12_times 196 = .ok (.aload_n 0, 1) := by decide +kernel
theorem dX12_times_197 : decode cX12_times 197 = .ok (.getfield 69, 3) := by decide +kernel
theorem dX12_times_200 : decode cX12_times 200 = .ok (.iload_n 1, 1) := by decide +kernel
theorem dX12_times_201 : decode cX12_times 201 = .ok (.aload_n 0, 1) := by decide +kernel
theorem dX12_times_202 : decode cX12_times 202 = .ok (.getfield 69, 3) := by decide +kernel
theorem dX12_times_205 : decode cX12_times 205 = .ok (.iload_n 2, 1) := by decide +kernel
theorem dX12_times_206 : decode cX12_times 206 = .ok (.iaload, 1) := by decide +kernel
theorem dX12_times_207 : decode cX12_times 207 = .ok (.aload_n 0, 1) := by decide +kernel
theorem dX12_times_208 : decode cX12_times 208 = .ok (.getfield 69, 3) := by decide +kernel
theorem dX12_times_211 : decode cX12_times 211 = .ok (.iload_n 3, 1) := by decide +kernel
theorem dX12_times_212 : decode cX12_times 212 = .ok (.iaload, 1) := by decide +kernel
theorem dX12_times_213 : decode cX12_times 213 = .ok (.imul, 1) := by decide +kernel
theorem dX12_times_214 : decode cX12_times 214 = .ok (.iastore, 1) := by decide +kernel
theorem dX12_times_215 : decode cX12_times 215 = .ok (.aload_n 0, 1) := by decide +kernel
theorem dX12_times_216 : decode cX12_times 216 = .ok (.iload_n 1, 1) := by decide +kernel
theorem dX12_times_217 : decode cX12_times 217 = .ok (.invokevirtual 600, 3) := by decide +kernel
theorem dX12_times_220 : decode cX12_times 220 = .ok (.return_, 1) := by decide +kernel
theorem dL_law_2277 : decode cL_law 2277 = .ok (.aload_n 1, 1) := by decide +kernel
theorem dL_law_2278 : decode cL_law 2278 = .ok (.aload_n 0, 1) := by decide +kernel
theorem dL_law_2279 : decode cL_law 2279 = .ok (.iload 4, 2) := by decide +kernel
theorem dL_law_2281 : decode cL_law 2281 = .ok (.iconst 1, 1) := by decide +kernel
theorem dL_law_2282 : decode cL_law 2282 = .ok (.iadd, 1) := by decide +kernel
theorem dL_law_2283 : decode cL_law 2283 = .ok (.iaload, 1) := by decide +kernel
theorem dL_law_2284 : decode cL_law 2284 = .ok (.aload_n 0, 1) := by decide +kernel
theorem dL_law_2285 : decode cL_law 2285 = .ok (.iload 4, 2) := by decide +kernel
theorem dL_law_2287 : decode cL_law 2287 = .ok (.iconst 2, 1) := by decide +kernel
theorem dL_law_2288 : decode cL_law 2288 = .ok (.iadd, 1) := by decide +kernel
theorem dL_law_2289 : decode cL_law 2289 = .ok (.iaload, 1) := by decide +kernel
theorem dL_law_2290 : decode cL_law 2290 = .ok (.aload_n 0, 1) := by decide +kernel
theorem dL_law_2291 : decode cL_law 2291 = .ok (.iload 4, 2) := by decide +kernel
theorem dL_law_2293 : decode cL_law 2293 = .ok (.iconst 3, 1) := by decide +kernel
theorem dL_law_2294 : decode cL_law 2294 = .ok (.iadd, 1) := by decide +kernel
theorem dL_law_2295 : decode cL_law 2295 = .ok (.iaload, 1) := by decide +kernel
theorem dL_law_2296 : decode cL_law 2296 = .ok (.aload_n 3, 1) := by decide +kernel
theorem dL_law_2297 : decode cL_law 2297 = .ok (.invokestatic 235, 3) := by decide +kernel
theorem dL_law_2300 : decode cL_law 2300 = .ok (.istore 5, 2) := by decide +kernel
theorem dL_law_2302 : decode cL_law 2302 = .ok (.aload_n 2, 1) := by decide +kernel
theorem dL_law_2303 : decode cL_law 2303 = .ok (.aload_n 0, 1) := by decide +kernel
theorem dL_law_2304 : decode cL_law 2304 = .ok (.iload 4, 2) := by decide +kernel
theorem dL_law_2306 : decode cL_law 2306 = .ok (.iconst 1, 1) := by decide +kernel
theorem dL_law_2307 : decode cL_law 2307 = .ok (.iadd, 1) := by decide +kernel
theorem dL_law_2308 : decode cL_law 2308 = .ok (.iaload, 1) := by decide +kernel
theorem dL_law_2309 : decode cL_law 2309 = .ok (.aload_n 0, 1) := by decide +kernel
theorem dL_law_2310 : decode cL_law 2310 = .ok (.iload 4, 2) := by decide +kernel
theorem dL_law_2312 : decode cL_law 2312 = .ok (.iconst 2, 1) := by decide +kernel
theorem dL_law_2313 : decode cL_law 2313 = .ok (.iadd, 1) := by decide +kernel
theorem dL_law_2314 : decode cL_law 2314 = .ok (.iaload, 1) := by decide +kernel
theorem dL_law_2315 : decode cL_law 2315 = .ok (.aload_n 0, 1) := by decide +kernel
theorem dL_law_2316 : decode cL_law 2316 = .ok (.iload 4, 2) := by decide +kernel
theorem dL_law_2318 : decode cL_law 2318 = .ok (.iconst 3, 1) := by decide +kernel
theorem dL_law_2319 : decode cL_law 2319 = .ok (.iadd, 1) := by decide +kernel
theorem dL_law_2320 : decode cL_law 2320 = .ok (.iaload, 1) := by decide +kernel
theorem dL_law_2321 : decode cL_law 2321 = .ok (.invokevirtual 237, 3) := by decide +kernel
theorem dL_law_2324 : decode cL_law 2324 = .ok (.istore 6, 2) := by decide +kernel
theorem dL_law_2326 : decode cL_law 2326 = .ok (.aload_n 2, 1) := by decide +kernel
theorem dL_law_2327 : decode cL_law 2327 = .ok (.invokevirtual 136, 3) := by decide +kernel
theorem dL_law_2330 : decode cL_law 2330 = .ok (.iload 5, 2) := by decide +kernel
theorem dL_law_2332 : decode cL_law 2332 = .ok (.if_icmp .eq 5, 3) := by decide +kernel
theorem dL_law_2337 : decode cL_law 2337 = .ok (.iload 5, 2) := by decide +kernel
theorem dL_law_2339 : decode cL_law 2339 = .ok (.ifCond .ne 15, 3) := by decide +kernel
theorem dL_law_2342 : decode cL_law 2342 = .ok (.aload_n 3, 1) := by decide +kernel
theorem dL_law_2343 : decode cL_law 2343 = .ok (.iconst 0, 1) := by decide +kernel
theorem dL_law_2344 : decode cL_law 2344 = .ok (.laload, 1) := by decide +kernel
theorem dL_law_2345 : decode cL_law 2345 = .ok (.iload 6, 2) := by decide +kernel
theorem dL_law_2347 : decode cL_law 2347 = .ok (.i2l, 1) := by decide +kernel
theorem dL_law_2348 : decode cL_law 2348 = .ok (.lcmp, 1) := by decide +kernel
theorem dL_law_2349 : decode cL_law 2349 = .ok (.ifCond .eq 5, 3) := by decide +kernel
theorem dL_law_2354 : decode cL_law 2354 = .ok (.goto 95, 3) := by decide +kernel
abbrev M_L_side : MRec := (yL_side, cL_side, 6, (some Jvm.ClassFile.FieldType.int), [((0 : Nat), (12 : Nat), (15 : Nat), (24 : Nat))])
theorem m_L_side : en_M M_L_side 5 := ⟨t_2318, t_0, ⟨by decide +kernel, by decide +kernel⟩, by decide +kernel, by decide +kernel, by decide +kernel⟩
abbrev M_X11_side : MRec := (yX11_side, cX11_side, 4, (some Jvm.ClassFile.FieldType.int), [])
theorem m_X11_side : en_M M_X11_side 3 := ⟨t_2322, t_1, ⟨by decide +kernel, by decide +kernel⟩, by decide +kernel, by decide +kernel, by decide +kernel⟩
abbrev M_X12_side : MRec := (yX12_side, cX12_side, 4, (some Jvm.ClassFile.FieldType.int), [])
theorem m_X12_side : en_M M_X12_side 3 := ⟨t_3160, t_14, ⟨by decide +kernel, by decide +kernel⟩, by decide +kernel, by decide +kernel, by decide +kernel⟩
abbrev M_X7_sideSign : MRec := (yX7_sideSign, cX7_sideSign, 4, (some Jvm.ClassFile.FieldType.int), [])
theorem m_X7_sideSign : en_M M_X7_sideSign 3 := ⟨t_2326, t_13, ⟨by decide +kernel, by decide +kernel⟩, by decide +kernel, by decide +kernel, by decide +kernel⟩
abbrev M_X7_difference : MRec := (yX7_difference, cX7_difference, 6, none, [])
theorem m_X7_difference : en_M M_X7_difference 3 := ⟨t_2330, t_13, ⟨by decide +kernel, by decide +kernel⟩, by decide +kernel, by decide +kernel, by decide +kernel⟩
abbrev M_X7_load : MRec := (yX7_load, cX7_load, 14, none, [])
theorem m_X7_load : en_M M_X7_load 2 := ⟨t_2334, t_13, ⟨by decide +kernel, by decide +kernel⟩, by decide +kernel, by decide +kernel, by decide +kernel⟩
abbrev M_J7_fill_fda19 : MRec := (yJ7_fill_fda19, cJ7_fill_fda19, 5, none, [])
theorem m_J7_fill_fda19 : en_M M_J7_fill_fda19 4 := ⟨t_1523, t_8, ⟨by decide +kernel, by decide +kernel⟩, by decide +kernel, by decide +kernel, by decide +kernel⟩
abbrev M_J7_rangeCheck_23922 : MRec := (yJ7_rangeCheck_23922, cJ7_rangeCheck_23922, 3, none, [])
theorem m_J7_rangeCheck_23922 : en_M M_J7_rangeCheck_23922 3 := ⟨t_1526, t_8, ⟨by decide +kernel, by decide +kernel⟩, by decide +kernel, by decide +kernel, by decide +kernel⟩
abbrev M_X7_trim : MRec := (yX7_trim, cX7_trim, 2, none, [])
theorem m_X7_trim : en_M M_X7_trim 1 := ⟨t_2342, t_13, ⟨by decide +kernel, by decide +kernel⟩, by decide +kernel, by decide +kernel, by decide +kernel⟩
abbrev M_X7_addSigned : MRec := (yX7_addSigned, cX7_addSigned, 7, none, [])
theorem m_X7_addSigned : en_M M_X7_addSigned 4 := ⟨t_2346, t_13, ⟨by decide +kernel, by decide +kernel⟩, by decide +kernel, by decide +kernel, by decide +kernel⟩
abbrev M_X7_addLimbs : MRec := (yX7_addLimbs, cX7_addLimbs, 11, none, [])
theorem m_X7_addLimbs : en_M M_X7_addLimbs 4 := ⟨t_2350, t_13, ⟨by decide +kernel, by decide +kernel⟩, by decide +kernel, by decide +kernel, by decide +kernel⟩
abbrev M_X7_limbAt : MRec := (yX7_limbAt, cX7_limbAt, 3, (some Jvm.ClassFile.FieldType.long), [])
theorem m_X7_limbAt : en_M M_X7_limbAt 2 := ⟨t_2355, t_13, ⟨by decide +kernel, by decide +kernel⟩, by decide +kernel, by decide +kernel, by decide +kernel⟩
abbrev M_X7_multiply : MRec := (yX7_multiply, cX7_multiply, 13, none, [])
theorem m_X7_multiply : en_M M_X7_multiply 3 := ⟨t_2363, t_13, ⟨by decide +kernel, by decide +kernel⟩, by decide +kernel, by decide +kernel, by decide +kernel⟩
abbrev M_X12_between : MRec := (yX12_between, cX12_between, 5, none, [])
theorem m_X12_between : en_M M_X12_between 4 := ⟨t_3164, t_14, ⟨by decide +kernel, by decide +kernel⟩, by decide +kernel, by decide +kernel, by decide +kernel⟩
abbrev M_X12_load : MRec := (yX12_load, cX12_load, 14, none, [])
theorem m_X12_load : en_M M_X12_load 2 := ⟨t_3168, t_14, ⟨by decide +kernel, by decide +kernel⟩, by decide +kernel, by decide +kernel, by decide +kernel⟩
abbrev M_X12_trim : MRec := (yX12_trim, cX12_trim, 2, none, [])
theorem m_X12_trim : en_M M_X12_trim 1 := ⟨t_3173, t_14, ⟨by decide +kernel, by decide +kernel⟩, by decide +kernel, by decide +kernel, by decide +kernel⟩
abbrev M_X12_add : MRec := (yX12_add, cX12_add, 7, none, [])
theorem m_X12_add : en_M M_X12_add 4 := ⟨t_3177, t_14, ⟨by decide +kernel, by decide +kernel⟩, by decide +kernel, by decide +kernel, by decide +kernel⟩
abbrev M_X12_addSizes : MRec := (yX12_addSizes, cX12_addSizes, 8, none, [])
theorem m_X12_addSizes : en_M M_X12_addSizes 3 := ⟨t_3181, t_14, ⟨by decide +kernel, by decide +kernel⟩, by decide +kernel, by decide +kernel, by decide +kernel⟩
abbrev M_X12_limb : MRec := (yX12_limb, cX12_limb, 3, (some Jvm.ClassFile.FieldType.long), [])
theorem m_X12_limb : en_M M_X12_limb 2 := ⟨t_3185, t_14, ⟨by decide +kernel, by decide +kernel⟩, by decide +kernel, by decide +kernel, by decide +kernel⟩
abbrev M_X12_times : MRec := (yX12_times, cX12_times, 11, none, [])
theorem m_X12_times : en_M M_X12_times 3 := ⟨t_3197, t_14, ⟨by decide +kernel, by decide +kernel⟩, by decide +kernel, by decide +kernel, by decide +kernel⟩
set_option maxRecDepth 10000 in
theorem q6504 {l : Launch} {E : EE} (hl : l.stackTraces = false) {h : HP} {a0 : Int32} {a1 : Int32} {a2 : Int32} (c0 : a0.toInt < 0) : en_C l E M_X11_side 6 1 6 [.ref 32, .int a0, .int a1, .int a2] h (pT "java/lang/IndexOutOfBoundsException" [] h (fun _ => True)) := by
  refine en_mk m_X11_side rfl hl (Nat.le_of_ble_eq_true rfl) ?_
  refine x_iload_n (M := M_X11_side) dX11_side_0 rfl ?_
  refine x_callSR (M := M_X11_side) (M' := M_X11_isNoSignPoint) rfl rfl dX11_side_1 m_X11_isNoSignPoint t_2309 t_2310 (q4252 hl c0) rfl rfl (Nat.le_of_ble_eq_true rfl) (Nat.le_of_ble_eq_true rfl) (Nat.le_of_ble_eq_true rfl) (Nat.le_of_ble_eq_true rfl) ?_
  refine x_if_ne (M := M_X11_side) (tgt := 21) dX11_side_4 (by decide) (fun _ => ?_) (fun q => absurd q (by decide +kernel))
  exact x_throw (M := M_X11_side) (names := en_nm) rfl dX11_side_21 dX11_side_24 dX11_side_25 dX11_side_28 (by decide +kernel) en_nm_ok (Or.inl t_748) (Or.inl t_22) (at_X11_IndexOutOfBoundsException_139) (Nat.le_of_ble_eq_true rfl) (Nat.le_of_ble_eq_true rfl) (Nat.le_of_ble_eq_true rfl) (Nat.le_of_ble_eq_true rfl) (fun n9 => ⟨rfl, (fr_tr (fr_app (List.replicate n9 none)) (fun _ h => nomatch h) fr_rf), trivial⟩)
set_option maxRecDepth 10000 in
theorem q6509 {l : Launch} {E : EE} (hl : l.stackTraces = false) {h : HP} {a0 : Int32} {a1 : Int32} {a2 : Int32} (c0 : a0.toInt < 0) (o6505 : ob h 32 = some (.inr (14, [.ref 33, .ref 162, .ref 166, .int (0 : Int32), .int (0 : Int32), .int (0 : Int32), .ref 167, .ref 170, .ref 173, .ref 177, .ref 193, .ref 208, .ref 222, .ref 238, .ref 252, .ref 274, .ref 275, .ref 276, .int (0 : Int32)]))) : en_C l E M_L_side 7 1 6 [.ref 32, .int a0, .int a1, .int a2, .ref 359] h (pF (some (.int (Int32.ofInt 1))) [] h (fun _ => True)) := by
  refine en_mkW m_L_side rfl hl (Nat.le_of_ble_eq_true rfl) ?_
  refine x_aload (M := M_L_side) dL_side_0 rfl ?_
  refine x_iconst (M := M_L_side) dL_side_2 ?_
  refine x_aload_n (M := M_L_side) dL_side_3 rfl ?_
  refine x_iload_n (M := M_L_side) dL_side_4 rfl ?_
  refine x_iload_n (M := M_L_side) dL_side_5 rfl ?_
  refine x_iload_n (M := M_L_side) dL_side_6 rfl ?_
  refine y_callVHX (M := M_L_side) (M' := M_X11_side) (i9 := 5) (nx := 17) rfl dL_side_7 m_X11_side t_2319 t_2320 t_2321 o6505 rfl (q6504 hl c0) rfl rfl (Nat.le_of_ble_eq_true rfl) (Nat.le_of_ble_eq_true rfl) (Nat.le_of_ble_eq_true rfl) (Nat.le_of_ble_eq_true rfl) (en_hdm (k0 := 5) [] [] rfl (fun _ h => nomatch h) (by decide +kernel) (by decide) t_739 n_750 dL_side_15) (by decide) rfl (fun h6506 f6507 w6508 => ?_)
  refine x_iconst (M := M_L_side) dL_side_17 ?_
  exact x_iret (M := M_L_side) dL_side_18 rfl ⟨rfl, (fr_tr f6507 (fun _ h => nomatch h) fr_rf), trivial⟩ (Nat.le_of_ble_eq_true rfl) (Nat.le_of_ble_eq_true rfl)
set_option maxRecDepth 10000 in
theorem q6522 {l : Launch} {E : EE} (hl : l.stackTraces = false) {h : HP} {a0 : Int32} {a1 : Int32} {a2 : Int32} {dg : Int32} (c0 : a0.toInt < 0) (o6514 : ob h 277 = some (.inr (15, (RB dg)))) : en_C l E M_X12_side 1 0 0 [.ref 277, .int a0, .int a1, .int a2] h (pF (some (.int (Int32.ofInt 0))) [277] h (fun h' => ob h' 277 = some (.inr (15, ((RB dg).set 0 (.int (Int32.ofInt 1))))) ∧ True)) := by
  refine en_mk m_X12_side rfl hl (Nat.le_of_ble_eq_true rfl) ?_
  refine x_aload_n (M := M_X12_side) dX12_side_0 rfl ?_
  refine x_iconst (M := M_X12_side) dX12_side_1 ?_
  refine y_put (M := M_X12_side) (ci := 15) (C := RX12) (T := TX12) (N := 135) (ty := tyX12) cl15 dX12_side_2 o6514 0 (by decide) t_2391 (Or.inl rfl) (Nat.le_of_ble_eq_true rfl) rfl (fun h6515 w6516 f6517 => ?_)
  refine x_aload_n (M := M_X12_side) dX12_side_5 rfl ?_
  refine x_iload_n (M := M_X12_side) dX12_side_6 rfl ?_
  refine x_callSR (M := M_X12_side) (M' := M_X12_isPoint) rfl rfl dX12_side_7 m_X12_isPoint t_3154 t_3155 (q4276 hl c0) rfl rfl (Nat.le_of_ble_eq_true rfl) (Nat.le_of_ble_eq_true rfl) (Nat.le_of_ble_eq_true rfl) (Nat.le_of_ble_eq_true rfl) ?_
  refine x_if_eq (M := M_X12_side) (tgt := 27) dX12_side_10 (by decide) (fun _ => ?_) (fun q => absurd q (by decide +kernel))
  refine x_iconst (M := M_X12_side) dX12_side_27 ?_
  refine x_goto (M := M_X12_side) (tgt := 32) dX12_side_28 (by decide) ?_
  refine x_iconst (M := M_X12_side) dX12_side_32 ?_
  refine y_callVR (M := M_X12_side) (M' := M_X12_fails) rfl rfl dX12_side_33 m_X12_fails t_2805 t_2807 s_157 (q22 hl w6516) rfl rfl w6516 rfl (Nat.le_of_ble_eq_true rfl) (Nat.le_of_ble_eq_true rfl) (Nat.le_of_ble_eq_true rfl) (Nat.le_of_ble_eq_true rfl) (fun h6518 f6519 w6520 => ?_)
  obtain ⟨o6521, -⟩ := w6520
  refine x_if_eq (M := M_X12_side) (tgt := 41) dX12_side_36 (by decide) (fun q => absurd q (by decide +kernel)) (fun _ => ?_)
  refine x_iconst (M := M_X12_side) dX12_side_39 ?_
  exact x_iret (M := M_X12_side) dX12_side_40 rfl ⟨rfl, (fr_tr f6519 (by decide) (fr_tr f6517 (by decide) fr_rf)), ⟨o6521, trivial⟩⟩ (Nat.le_of_ble_eq_true rfl) (Nat.le_of_ble_eq_true rfl)
set_option maxRecDepth 10000 in
theorem lc30_0 {l : Launch} {E : EE} (hl : l.stackTraces = false) (nm : String) {xs : Nat → Int32} (hx : E.2.2.2.2 0 = some (7, xs)) {h : HP} {a0 : Int32} {a1 : Int32} {a2 : Int32} {dg : Int32} (e2 : xs 2 = a0) (e3 : xs 3 = a1) (e4 : xs 4 = a2) (c0 : a0.toInt < 0) (o6510 : ob h 32 = some (.inr (14, [.ref 33, .ref 162, .ref 166, .int (0 : Int32), .int (0 : Int32), .int (0 : Int32), .ref 167, .ref 170, .ref 173, .ref 177, .ref 193, .ref 208, .ref 222, .ref 238, .ref 252, .ref 274, .ref 275, .ref 276, .int (0 : Int32)]))) (o6523 : ob h 277 = some (.inr (15, (RB dg)))) : XX l E (M_law nm) 1312 342628 8074320 (fun o _ => o = .inl (some (.int 1))) 2277 [some (.ref 0), some (.ref 32), some (.ref 277), some (.ref 359), some (.int (Int32.ofInt 1)), none, none, none] [] h 328 2463747 := by
  refine x_aload_n (M := (M_law nm)) dL_law_2277 rfl ?_
  refine x_aload_n (M := (M_law nm)) dL_law_2278 rfl ?_
  refine x_iload (M := (M_law nm)) dL_law_2279 rfl ?_
  refine x_iconst (M := (M_law nm)) dL_law_2281 ?_
  refine x_iadd (M := (M_law nm)) dL_law_2282 ?_
  refine x_sald (M := (M_law nm)) dL_law_2283 (by decide) hx (vp_inD (by decide +kernel)) ?_
  refine x_top (M := (M_law nm)) (y := a0) ((congrArg xs (by decide +kernel : ((Int32.ofInt 1) + (Int32.ofInt 1)).toNatClampNeg = 2)).trans e2) ?_
  refine x_aload_n (M := (M_law nm)) dL_law_2284 rfl ?_
  refine x_iload (M := (M_law nm)) dL_law_2285 rfl ?_
  refine x_iconst (M := (M_law nm)) dL_law_2287 ?_
  refine x_iadd (M := (M_law nm)) dL_law_2288 ?_
  refine x_sald (M := (M_law nm)) dL_law_2289 (by decide) hx (vp_inD (by decide +kernel)) ?_
  refine x_top (M := (M_law nm)) (y := a1) ((congrArg xs (by decide +kernel : ((Int32.ofInt 1) + (Int32.ofInt 2)).toNatClampNeg = 3)).trans e3) ?_
  refine x_aload_n (M := (M_law nm)) dL_law_2290 rfl ?_
  refine x_iload (M := (M_law nm)) dL_law_2291 rfl ?_
  refine x_iconst (M := (M_law nm)) dL_law_2293 ?_
  refine x_iadd (M := (M_law nm)) dL_law_2294 ?_
  refine x_sald (M := (M_law nm)) dL_law_2295 (by decide) hx (vp_inD (by decide +kernel)) ?_
  refine x_top (M := (M_law nm)) (y := a2) ((congrArg xs (by decide +kernel : ((Int32.ofInt 1) + (Int32.ofInt 3)).toNatClampNeg = 4)).trans e4) ?_
  refine x_aload_n (M := (M_law nm)) dL_law_2296 rfl ?_
  refine y_callSW (M := (M_law nm)) (M' := M_L_side) rfl rfl dL_law_2297 m_L_side t_2316 t_2317 (q6509 hl c0 o6510) rfl rfl (Nat.le_of_ble_eq_true rfl) (Nat.le_of_ble_eq_true rfl) (Nat.le_of_ble_eq_true rfl) (Nat.le_of_ble_eq_true rfl) (fun h6511 f6512 w6513 => ?_)
  refine x_istore (M := (M_law nm)) dL_law_2300 (Nat.le_of_ble_eq_true rfl) rfl ?_
  refine x_aload_n (M := (M_law nm)) dL_law_2302 rfl ?_
  refine x_aload_n (M := (M_law nm)) dL_law_2303 rfl ?_
  refine x_iload (M := (M_law nm)) dL_law_2304 rfl ?_
  refine x_iconst (M := (M_law nm)) dL_law_2306 ?_
  refine x_iadd (M := (M_law nm)) dL_law_2307 ?_
  refine x_sald (M := (M_law nm)) dL_law_2308 (by decide) hx (vp_inD (by decide +kernel)) ?_
  refine x_top (M := (M_law nm)) (y := a0) ((congrArg xs (by decide +kernel : ((Int32.ofInt 1) + (Int32.ofInt 1)).toNatClampNeg = 2)).trans e2) ?_
  refine x_aload_n (M := (M_law nm)) dL_law_2309 rfl ?_
  refine x_iload (M := (M_law nm)) dL_law_2310 rfl ?_
  refine x_iconst (M := (M_law nm)) dL_law_2312 ?_
  refine x_iadd (M := (M_law nm)) dL_law_2313 ?_
  refine x_sald (M := (M_law nm)) dL_law_2314 (by decide) hx (vp_inD (by decide +kernel)) ?_
  refine x_top (M := (M_law nm)) (y := a1) ((congrArg xs (by decide +kernel : ((Int32.ofInt 1) + (Int32.ofInt 2)).toNatClampNeg = 3)).trans e3) ?_
  refine x_aload_n (M := (M_law nm)) dL_law_2315 rfl ?_
  refine x_iload (M := (M_law nm)) dL_law_2316 rfl ?_
  refine x_iconst (M := (M_law nm)) dL_law_2318 ?_
  refine x_iadd (M := (M_law nm)) dL_law_2319 ?_
  refine x_sald (M := (M_law nm)) dL_law_2320 (by decide) hx (vp_inD (by decide +kernel)) ?_
  refine x_top (M := (M_law nm)) (y := a2) ((congrArg xs (by decide +kernel : ((Int32.ofInt 1) + (Int32.ofInt 3)).toNatClampNeg = 4)).trans e4) ?_
  have o6524 := (f6512 277 _ (by decide) o6523)
  refine y_callVR (M := (M_law nm)) (M' := M_X12_side) rfl rfl dL_law_2321 m_X12_side t_3157 t_3158 t_3159 (q6522 hl c0 o6524) rfl rfl o6524 rfl (Nat.le_of_ble_eq_true rfl) (Nat.le_of_ble_eq_true rfl) (Nat.le_of_ble_eq_true rfl) (Nat.le_of_ble_eq_true rfl) (fun h6525 f6526 w6527 => ?_)
  obtain ⟨o6528, -⟩ := w6527
  refine x_istore (M := (M_law nm)) dL_law_2324 (Nat.le_of_ble_eq_true rfl) rfl ?_
  refine x_aload_n (M := (M_law nm)) dL_law_2326 rfl ?_
  refine x_callVR (M := (M_law nm)) (M' := M_X12_thrown) rfl rfl dL_law_2327 m_X12_thrown t_2797 t_2798 t_2799 (q35 hl o6528) rfl rfl o6528 rfl (Nat.le_of_ble_eq_true rfl) (Nat.le_of_ble_eq_true rfl) (Nat.le_of_ble_eq_true rfl) (Nat.le_of_ble_eq_true rfl) ?_
  refine x_iload (M := (M_law nm)) dL_law_2330 rfl ?_
  refine x_icmp_eq (M := (M_law nm)) (tgt := 2337) dL_law_2332 (by decide) (fun _ => ?_) (fun q => absurd q (by decide +kernel))
  refine x_iload (M := (M_law nm)) dL_law_2337 rfl ?_
  refine x_if_ne (M := (M_law nm)) (tgt := 2354) dL_law_2339 (by decide) (fun _ => ?_) (fun q => absurd q (by decide +kernel))
  refine x_goto (M := (M_law nm)) (tgt := 2449) dL_law_2354 (by decide) ?_
  refine x_iinc (M := (M_law nm)) dL_law_2449 rfl (Nat.le_of_ble_eq_true rfl) rfl ?_
  refine x_lvs (M := (M_law nm)) (lv' := [some (.ref 0), some (.ref 32), some (.ref 277), some (.ref 359), some (.int (Int32.ofInt 7)), some (.int (Int32.ofInt 1)), some (.int (Int32.ofInt 0)), none]) (by rw [(by decide +kernel : (Int32.ofInt 1) + Int32.ofInt 6 = (Int32.ofInt 7))] <;> rfl) ?_
  refine x_goto (M := (M_law nm)) (tgt := 33) dL_law_2452 (by decide) ?_
  refine x_iload (M := (M_law nm)) dL_law_33 rfl ?_
  refine x_aload_n (M := (M_law nm)) dL_law_35 rfl ?_
  refine x_slen (M := (M_law nm)) dL_law_36 (by decide) hx ?_
  refine x_bipush (M := (M_law nm)) dL_law_37 ?_
  refine x_isub (M := (M_law nm)) dL_law_39 ?_
  refine x_icmp_gt (M := (M_law nm)) (tgt := 2455) dL_law_40 (by decide) (fun _ => ?_) (fun q => absurd q (by decide +kernel))
  refine x_iconst (M := (M_law nm)) dL_law_2455 ?_
  exact x_zret (M := (M_law nm)) dL_law_2456 rfl (by decide) rfl (Nat.le_of_ble_eq_true rfl) (Nat.le_of_ble_eq_true rfl)
set_option maxRecDepth 10000 in
theorem q6529 {l : Launch} {E : EE} (hl : l.stackTraces = false) {h : HP} {a1 : Int32} (c0 : a1.toInt < 0) : en_C l E M_X11_isNoSignPoint 0 0 0 [.int a1] h (pR (some (.int (Int32.ofInt 1))) h) := by
  refine en_mk m_X11_isNoSignPoint rfl hl (Nat.le_of_ble_eq_true rfl) ?_
  refine x_iload_n (M := M_X11_isNoSignPoint) dX11_isNoSignPoint_0 rfl ?_
  refine x_if_lt (M := M_X11_isNoSignPoint) (tgt := 10) dX11_isNoSignPoint_1 (by decide) (fun _ => ?_) (fun q => absurd ((bi_lt rfl (by decide +kernel)).mpr (by omega : (a1.toInt < 0 : Prop))) q)
  refine x_iconst (M := M_X11_isNoSignPoint) dX11_isNoSignPoint_10 ?_
  refine x_goto (M := M_X11_isNoSignPoint) (tgt := 15) dX11_isNoSignPoint_11 (by decide) ?_
  exact x_zret (M := M_X11_isNoSignPoint) dX11_isNoSignPoint_15 rfl (by decide) ⟨rfl, rfl⟩ (Nat.le_of_ble_eq_true rfl) (Nat.le_of_ble_eq_true rfl)
set_option maxRecDepth 10000 in
theorem q6531 {l : Launch} {E : EE} (hl : l.stackTraces = false) {h : HP} {a0 : Int32} {a1 : Int32} {a2 : Int32} (c0 : ¬ (a0.toInt < 0)) (c1 : a0.toInt < 32) (c2 : a1.toInt < 0) : en_C l E M_X11_side 6 1 6 [.ref 32, .int a0, .int a1, .int a2] h (pT "java/lang/IndexOutOfBoundsException" [] h (fun _ => True)) := by
  refine en_mk m_X11_side rfl hl (Nat.le_of_ble_eq_true rfl) ?_
  refine x_iload_n (M := M_X11_side) dX11_side_0 rfl ?_
  refine x_callSR (M := M_X11_side) (M' := M_X11_isNoSignPoint) rfl rfl dX11_side_1 m_X11_isNoSignPoint t_2309 t_2310 (q4334 hl c0 c1) rfl rfl (Nat.le_of_ble_eq_true rfl) (Nat.le_of_ble_eq_true rfl) (Nat.le_of_ble_eq_true rfl) (Nat.le_of_ble_eq_true rfl) ?_
  refine x_if_ne (M := M_X11_side) (tgt := 21) dX11_side_4 (by decide) (fun q => absurd q (by decide +kernel)) (fun _ => ?_)
  refine x_iload_n (M := M_X11_side) dX11_side_7 rfl ?_
  refine x_callSR (M := M_X11_side) (M' := M_X11_isNoSignPoint) rfl rfl dX11_side_8 m_X11_isNoSignPoint t_2309 t_2310 (q6529 hl c2) rfl rfl (Nat.le_of_ble_eq_true rfl) (Nat.le_of_ble_eq_true rfl) (Nat.le_of_ble_eq_true rfl) (Nat.le_of_ble_eq_true rfl) ?_
  refine x_if_ne (M := M_X11_side) (tgt := 21) dX11_side_11 (by decide) (fun _ => ?_) (fun q => absurd q (by decide +kernel))
  exact x_throw (M := M_X11_side) (names := en_nm) rfl dX11_side_21 dX11_side_24 dX11_side_25 dX11_side_28 (by decide +kernel) en_nm_ok (Or.inl t_748) (Or.inl t_22) (at_X11_IndexOutOfBoundsException_139) (Nat.le_of_ble_eq_true rfl) (Nat.le_of_ble_eq_true rfl) (Nat.le_of_ble_eq_true rfl) (Nat.le_of_ble_eq_true rfl) (fun n9 => ⟨rfl, (fr_tr (fr_app (List.replicate n9 none)) (fun _ h => nomatch h) fr_rf), trivial⟩)
set_option maxRecDepth 10000 in
theorem q6536 {l : Launch} {E : EE} (hl : l.stackTraces = false) {h : HP} {a0 : Int32} {a1 : Int32} {a2 : Int32} (c0 : ¬ (a0.toInt < 0)) (c1 : a0.toInt < 32) (c2 : a1.toInt < 0) (o6532 : ob h 32 = some (.inr (14, [.ref 33, .ref 162, .ref 166, .int (0 : Int32), .int (0 : Int32), .int (0 : Int32), .ref 167, .ref 170, .ref 173, .ref 177, .ref 193, .ref 208, .ref 222, .ref 238, .ref 252, .ref 274, .ref 275, .ref 276, .int (0 : Int32)]))) : en_C l E M_L_side 7 1 6 [.ref 32, .int a0, .int a1, .int a2, .ref 359] h (pF (some (.int (Int32.ofInt 1))) [] h (fun _ => True)) := by
  refine en_mkW m_L_side rfl hl (Nat.le_of_ble_eq_true rfl) ?_
  refine x_aload (M := M_L_side) dL_side_0 rfl ?_
  refine x_iconst (M := M_L_side) dL_side_2 ?_
  refine x_aload_n (M := M_L_side) dL_side_3 rfl ?_
  refine x_iload_n (M := M_L_side) dL_side_4 rfl ?_
  refine x_iload_n (M := M_L_side) dL_side_5 rfl ?_
  refine x_iload_n (M := M_L_side) dL_side_6 rfl ?_
  refine y_callVHX (M := M_L_side) (M' := M_X11_side) (i9 := 5) (nx := 17) rfl dL_side_7 m_X11_side t_2319 t_2320 t_2321 o6532 rfl (q6531 hl c0 c1 c2) rfl rfl (Nat.le_of_ble_eq_true rfl) (Nat.le_of_ble_eq_true rfl) (Nat.le_of_ble_eq_true rfl) (Nat.le_of_ble_eq_true rfl) (en_hdm (k0 := 5) [] [] rfl (fun _ h => nomatch h) (by decide +kernel) (by decide) t_739 n_750 dL_side_15) (by decide) rfl (fun h6533 f6534 w6535 => ?_)
  refine x_iconst (M := M_L_side) dL_side_17 ?_
  exact x_iret (M := M_L_side) dL_side_18 rfl ⟨rfl, (fr_tr f6534 (fun _ h => nomatch h) fr_rf), trivial⟩ (Nat.le_of_ble_eq_true rfl) (Nat.le_of_ble_eq_true rfl)
set_option maxRecDepth 10000 in
theorem q6545 {l : Launch} {E : EE} (hl : l.stackTraces = false) {h : HP} {a1 : Int32} (c0 : a1.toInt < 0) : en_C l E M_X12_isPoint 0 0 0 [.int a1] h (pR (some (.int (Int32.ofInt 0))) h) := by
  refine en_mk m_X12_isPoint rfl hl (Nat.le_of_ble_eq_true rfl) ?_
  refine x_iload_n (M := M_X12_isPoint) dX12_isPoint_0 rfl ?_
  refine x_if_lt (M := M_X12_isPoint) (tgt := 14) dX12_isPoint_1 (by decide) (fun _ => ?_) (fun q => absurd ((bi_lt rfl (by decide +kernel)).mpr (by omega : (a1.toInt < 0 : Prop))) q)
  refine x_iconst (M := M_X12_isPoint) dX12_isPoint_14 ?_
  exact x_zret (M := M_X12_isPoint) dX12_isPoint_15 rfl (by decide) ⟨rfl, rfl⟩ (Nat.le_of_ble_eq_true rfl) (Nat.le_of_ble_eq_true rfl)
set_option maxRecDepth 10000 in
theorem q6550 {l : Launch} {E : EE} (hl : l.stackTraces = false) {h : HP} {a0 : Int32} {a1 : Int32} {a2 : Int32} {dg : Int32} (c0 : ¬ (a0.toInt < 0)) (c1 : a0.toInt < 32) (c2 : a1.toInt < 0) (o6541 : ob h 277 = some (.inr (15, (RB dg)))) : en_C l E M_X12_side 1 0 0 [.ref 277, .int a0, .int a1, .int a2] h (pF (some (.int (Int32.ofInt 0))) [277] h (fun h' => ob h' 277 = some (.inr (15, ((RB dg).set 0 (.int (Int32.ofInt 1))))) ∧ True)) := by
  refine en_mk m_X12_side rfl hl (Nat.le_of_ble_eq_true rfl) ?_
  refine x_aload_n (M := M_X12_side) dX12_side_0 rfl ?_
  refine x_iconst (M := M_X12_side) dX12_side_1 ?_
  refine y_put (M := M_X12_side) (ci := 15) (C := RX12) (T := TX12) (N := 135) (ty := tyX12) cl15 dX12_side_2 o6541 0 (by decide) t_2391 (Or.inl rfl) (Nat.le_of_ble_eq_true rfl) rfl (fun h6542 w6543 f6544 => ?_)
  refine x_aload_n (M := M_X12_side) dX12_side_5 rfl ?_
  refine x_iload_n (M := M_X12_side) dX12_side_6 rfl ?_
  refine x_callSR (M := M_X12_side) (M' := M_X12_isPoint) rfl rfl dX12_side_7 m_X12_isPoint t_3154 t_3155 (q4351 hl c0 c1) rfl rfl (Nat.le_of_ble_eq_true rfl) (Nat.le_of_ble_eq_true rfl) (Nat.le_of_ble_eq_true rfl) (Nat.le_of_ble_eq_true rfl) ?_
  refine x_if_eq (M := M_X12_side) (tgt := 27) dX12_side_10 (by decide) (fun q => absurd q (by decide +kernel)) (fun _ => ?_)
  refine x_iload_n (M := M_X12_side) dX12_side_13 rfl ?_
  refine x_callSR (M := M_X12_side) (M' := M_X12_isPoint) rfl rfl dX12_side_14 m_X12_isPoint t_3154 t_3155 (q6545 hl c2) rfl rfl (Nat.le_of_ble_eq_true rfl) (Nat.le_of_ble_eq_true rfl) (Nat.le_of_ble_eq_true rfl) (Nat.le_of_ble_eq_true rfl) ?_
  refine x_if_eq (M := M_X12_side) (tgt := 27) dX12_side_17 (by decide) (fun _ => ?_) (fun q => absurd q (by decide +kernel))
  refine x_iconst (M := M_X12_side) dX12_side_27 ?_
  refine x_goto (M := M_X12_side) (tgt := 32) dX12_side_28 (by decide) ?_
  refine x_iconst (M := M_X12_side) dX12_side_32 ?_
  refine y_callVR (M := M_X12_side) (M' := M_X12_fails) rfl rfl dX12_side_33 m_X12_fails t_2805 t_2807 s_157 (q22 hl w6543) rfl rfl w6543 rfl (Nat.le_of_ble_eq_true rfl) (Nat.le_of_ble_eq_true rfl) (Nat.le_of_ble_eq_true rfl) (Nat.le_of_ble_eq_true rfl) (fun h6546 f6547 w6548 => ?_)
  obtain ⟨o6549, -⟩ := w6548
  refine x_if_eq (M := M_X12_side) (tgt := 41) dX12_side_36 (by decide) (fun q => absurd q (by decide +kernel)) (fun _ => ?_)
  refine x_iconst (M := M_X12_side) dX12_side_39 ?_
  exact x_iret (M := M_X12_side) dX12_side_40 rfl ⟨rfl, (fr_tr f6547 (by decide) (fr_tr f6544 (by decide) fr_rf)), ⟨o6549, trivial⟩⟩ (Nat.le_of_ble_eq_true rfl) (Nat.le_of_ble_eq_true rfl)
set_option maxRecDepth 10000 in
theorem lc30_1 {l : Launch} {E : EE} (hl : l.stackTraces = false) (nm : String) {xs : Nat → Int32} (hx : E.2.2.2.2 0 = some (7, xs)) {h : HP} {a0 : Int32} {a1 : Int32} {a2 : Int32} {dg : Int32} (e2 : xs 2 = a0) (e3 : xs 3 = a1) (e4 : xs 4 = a2) (c0 : ¬ (a0.toInt < 0)) (c1 : a0.toInt < 32) (c2 : a1.toInt < 0) (o6537 : ob h 32 = some (.inr (14, [.ref 33, .ref 162, .ref 166, .int (0 : Int32), .int (0 : Int32), .int (0 : Int32), .ref 167, .ref 170, .ref 173, .ref 177, .ref 193, .ref 208, .ref 222, .ref 238, .ref 252, .ref 274, .ref 275, .ref 276, .int (0 : Int32)]))) (o6551 : ob h 277 = some (.inr (15, (RB dg)))) : XX l E (M_law nm) 1312 342628 8074320 (fun o _ => o = .inl (some (.int 1))) 2277 [some (.ref 0), some (.ref 32), some (.ref 277), some (.ref 359), some (.int (Int32.ofInt 1)), none, none, none] [] h 328 2463747 := by
  refine x_aload_n (M := (M_law nm)) dL_law_2277 rfl ?_
  refine x_aload_n (M := (M_law nm)) dL_law_2278 rfl ?_
  refine x_iload (M := (M_law nm)) dL_law_2279 rfl ?_
  refine x_iconst (M := (M_law nm)) dL_law_2281 ?_
  refine x_iadd (M := (M_law nm)) dL_law_2282 ?_
  refine x_sald (M := (M_law nm)) dL_law_2283 (by decide) hx (vp_inD (by decide +kernel)) ?_
  refine x_top (M := (M_law nm)) (y := a0) ((congrArg xs (by decide +kernel : ((Int32.ofInt 1) + (Int32.ofInt 1)).toNatClampNeg = 2)).trans e2) ?_
  refine x_aload_n (M := (M_law nm)) dL_law_2284 rfl ?_
  refine x_iload (M := (M_law nm)) dL_law_2285 rfl ?_
  refine x_iconst (M := (M_law nm)) dL_law_2287 ?_
  refine x_iadd (M := (M_law nm)) dL_law_2288 ?_
  refine x_sald (M := (M_law nm)) dL_law_2289 (by decide) hx (vp_inD (by decide +kernel)) ?_
  refine x_top (M := (M_law nm)) (y := a1) ((congrArg xs (by decide +kernel : ((Int32.ofInt 1) + (Int32.ofInt 2)).toNatClampNeg = 3)).trans e3) ?_
  refine x_aload_n (M := (M_law nm)) dL_law_2290 rfl ?_
  refine x_iload (M := (M_law nm)) dL_law_2291 rfl ?_
  refine x_iconst (M := (M_law nm)) dL_law_2293 ?_
  refine x_iadd (M := (M_law nm)) dL_law_2294 ?_
  refine x_sald (M := (M_law nm)) dL_law_2295 (by decide) hx (vp_inD (by decide +kernel)) ?_
  refine x_top (M := (M_law nm)) (y := a2) ((congrArg xs (by decide +kernel : ((Int32.ofInt 1) + (Int32.ofInt 3)).toNatClampNeg = 4)).trans e4) ?_
  refine x_aload_n (M := (M_law nm)) dL_law_2296 rfl ?_
  refine y_callSW (M := (M_law nm)) (M' := M_L_side) rfl rfl dL_law_2297 m_L_side t_2316 t_2317 (q6536 hl c0 c1 c2 o6537) rfl rfl (Nat.le_of_ble_eq_true rfl) (Nat.le_of_ble_eq_true rfl) (Nat.le_of_ble_eq_true rfl) (Nat.le_of_ble_eq_true rfl) (fun h6538 f6539 w6540 => ?_)
  refine x_istore (M := (M_law nm)) dL_law_2300 (Nat.le_of_ble_eq_true rfl) rfl ?_
  refine x_aload_n (M := (M_law nm)) dL_law_2302 rfl ?_
  refine x_aload_n (M := (M_law nm)) dL_law_2303 rfl ?_
  refine x_iload (M := (M_law nm)) dL_law_2304 rfl ?_
  refine x_iconst (M := (M_law nm)) dL_law_2306 ?_
  refine x_iadd (M := (M_law nm)) dL_law_2307 ?_
  refine x_sald (M := (M_law nm)) dL_law_2308 (by decide) hx (vp_inD (by decide +kernel)) ?_
  refine x_top (M := (M_law nm)) (y := a0) ((congrArg xs (by decide +kernel : ((Int32.ofInt 1) + (Int32.ofInt 1)).toNatClampNeg = 2)).trans e2) ?_
  refine x_aload_n (M := (M_law nm)) dL_law_2309 rfl ?_
  refine x_iload (M := (M_law nm)) dL_law_2310 rfl ?_
  refine x_iconst (M := (M_law nm)) dL_law_2312 ?_
  refine x_iadd (M := (M_law nm)) dL_law_2313 ?_
  refine x_sald (M := (M_law nm)) dL_law_2314 (by decide) hx (vp_inD (by decide +kernel)) ?_
  refine x_top (M := (M_law nm)) (y := a1) ((congrArg xs (by decide +kernel : ((Int32.ofInt 1) + (Int32.ofInt 2)).toNatClampNeg = 3)).trans e3) ?_
  refine x_aload_n (M := (M_law nm)) dL_law_2315 rfl ?_
  refine x_iload (M := (M_law nm)) dL_law_2316 rfl ?_
  refine x_iconst (M := (M_law nm)) dL_law_2318 ?_
  refine x_iadd (M := (M_law nm)) dL_law_2319 ?_
  refine x_sald (M := (M_law nm)) dL_law_2320 (by decide) hx (vp_inD (by decide +kernel)) ?_
  refine x_top (M := (M_law nm)) (y := a2) ((congrArg xs (by decide +kernel : ((Int32.ofInt 1) + (Int32.ofInt 3)).toNatClampNeg = 4)).trans e4) ?_
  have o6552 := (f6539 277 _ (by decide) o6551)
  refine y_callVR (M := (M_law nm)) (M' := M_X12_side) rfl rfl dL_law_2321 m_X12_side t_3157 t_3158 t_3159 (q6550 hl c0 c1 c2 o6552) rfl rfl o6552 rfl (Nat.le_of_ble_eq_true rfl) (Nat.le_of_ble_eq_true rfl) (Nat.le_of_ble_eq_true rfl) (Nat.le_of_ble_eq_true rfl) (fun h6553 f6554 w6555 => ?_)
  obtain ⟨o6556, -⟩ := w6555
  refine x_istore (M := (M_law nm)) dL_law_2324 (Nat.le_of_ble_eq_true rfl) rfl ?_
  refine x_aload_n (M := (M_law nm)) dL_law_2326 rfl ?_
  refine x_callVR (M := (M_law nm)) (M' := M_X12_thrown) rfl rfl dL_law_2327 m_X12_thrown t_2797 t_2798 t_2799 (q35 hl o6556) rfl rfl o6556 rfl (Nat.le_of_ble_eq_true rfl) (Nat.le_of_ble_eq_true rfl) (Nat.le_of_ble_eq_true rfl) (Nat.le_of_ble_eq_true rfl) ?_
  refine x_iload (M := (M_law nm)) dL_law_2330 rfl ?_
  refine x_icmp_eq (M := (M_law nm)) (tgt := 2337) dL_law_2332 (by decide) (fun _ => ?_) (fun q => absurd q (by decide +kernel))
  refine x_iload (M := (M_law nm)) dL_law_2337 rfl ?_
  refine x_if_ne (M := (M_law nm)) (tgt := 2354) dL_law_2339 (by decide) (fun _ => ?_) (fun q => absurd q (by decide +kernel))
  refine x_goto (M := (M_law nm)) (tgt := 2449) dL_law_2354 (by decide) ?_
  refine x_iinc (M := (M_law nm)) dL_law_2449 rfl (Nat.le_of_ble_eq_true rfl) rfl ?_
  refine x_lvs (M := (M_law nm)) (lv' := [some (.ref 0), some (.ref 32), some (.ref 277), some (.ref 359), some (.int (Int32.ofInt 7)), some (.int (Int32.ofInt 1)), some (.int (Int32.ofInt 0)), none]) (by rw [(by decide +kernel : (Int32.ofInt 1) + Int32.ofInt 6 = (Int32.ofInt 7))] <;> rfl) ?_
  refine x_goto (M := (M_law nm)) (tgt := 33) dL_law_2452 (by decide) ?_
  refine x_iload (M := (M_law nm)) dL_law_33 rfl ?_
  refine x_aload_n (M := (M_law nm)) dL_law_35 rfl ?_
  refine x_slen (M := (M_law nm)) dL_law_36 (by decide) hx ?_
  refine x_bipush (M := (M_law nm)) dL_law_37 ?_
  refine x_isub (M := (M_law nm)) dL_law_39 ?_
  refine x_icmp_gt (M := (M_law nm)) (tgt := 2455) dL_law_40 (by decide) (fun _ => ?_) (fun q => absurd q (by decide +kernel))
  refine x_iconst (M := (M_law nm)) dL_law_2455 ?_
  exact x_zret (M := (M_law nm)) dL_law_2456 rfl (by decide) rfl (Nat.le_of_ble_eq_true rfl) (Nat.le_of_ble_eq_true rfl)
set_option maxRecDepth 10000 in
theorem q6557 {l : Launch} {E : EE} (hl : l.stackTraces = false) {h : HP} {a1 : Int32} (c0 : ¬ (a1.toInt < 0)) (c1 : a1.toInt < 32) : en_C l E M_X11_isNoSignPoint 0 0 0 [.int a1] h (pR (some (.int (Int32.ofInt 0))) h) := by
  refine en_mk m_X11_isNoSignPoint rfl hl (Nat.le_of_ble_eq_true rfl) ?_
  refine x_iload_n (M := M_X11_isNoSignPoint) dX11_isNoSignPoint_0 rfl ?_
  refine x_if_lt (M := M_X11_isNoSignPoint) (tgt := 10) dX11_isNoSignPoint_1 (by decide) (fun q => absurd ((bi_lt rfl (by decide +kernel)).mp q) (by omega : ¬ (a1.toInt < 0))) (fun _ => ?_)
  refine x_iload_n (M := M_X11_isNoSignPoint) dX11_isNoSignPoint_4 rfl ?_
  refine x_bipush (M := M_X11_isNoSignPoint) dX11_isNoSignPoint_5 ?_
  refine x_icmp_lt (M := M_X11_isNoSignPoint) (tgt := 14) dX11_isNoSignPoint_7 (by decide) (fun _ => ?_) (fun q => absurd ((bi_lt rfl (by decide +kernel)).mpr (by omega : (a1.toInt < 32 : Prop))) q)
  refine x_iconst (M := M_X11_isNoSignPoint) dX11_isNoSignPoint_14 ?_
  exact x_zret (M := M_X11_isNoSignPoint) dX11_isNoSignPoint_15 rfl (by decide) ⟨rfl, rfl⟩ (Nat.le_of_ble_eq_true rfl) (Nat.le_of_ble_eq_true rfl)
set_option maxRecDepth 10000 in
theorem q6558 {l : Launch} {E : EE} (hl : l.stackTraces = false) {h : HP} {a2 : Int32} (c0 : a2.toInt < 0) : en_C l E M_X11_isNoSignPoint 0 0 0 [.int a2] h (pR (some (.int (Int32.ofInt 1))) h) := by
  refine en_mk m_X11_isNoSignPoint rfl hl (Nat.le_of_ble_eq_true rfl) ?_
  refine x_iload_n (M := M_X11_isNoSignPoint) dX11_isNoSignPoint_0 rfl ?_
  refine x_if_lt (M := M_X11_isNoSignPoint) (tgt := 10) dX11_isNoSignPoint_1 (by decide) (fun _ => ?_) (fun q => absurd ((bi_lt rfl (by decide +kernel)).mpr (by omega : (a2.toInt < 0 : Prop))) q)
  refine x_iconst (M := M_X11_isNoSignPoint) dX11_isNoSignPoint_10 ?_
  refine x_goto (M := M_X11_isNoSignPoint) (tgt := 15) dX11_isNoSignPoint_11 (by decide) ?_
  exact x_zret (M := M_X11_isNoSignPoint) dX11_isNoSignPoint_15 rfl (by decide) ⟨rfl, rfl⟩ (Nat.le_of_ble_eq_true rfl) (Nat.le_of_ble_eq_true rfl)
set_option maxRecDepth 10000 in
theorem q6560 {l : Launch} {E : EE} (hl : l.stackTraces = false) {h : HP} {a0 : Int32} {a1 : Int32} {a2 : Int32} (c0 : ¬ (a0.toInt < 0)) (c1 : a0.toInt < 32) (c2 : ¬ (a1.toInt < 0)) (c3 : a1.toInt < 32) (c4 : a2.toInt < 0) : en_C l E M_X11_side 6 1 6 [.ref 32, .int a0, .int a1, .int a2] h (pT "java/lang/IndexOutOfBoundsException" [] h (fun _ => True)) := by
  refine en_mk m_X11_side rfl hl (Nat.le_of_ble_eq_true rfl) ?_
  refine x_iload_n (M := M_X11_side) dX11_side_0 rfl ?_
  refine x_callSR (M := M_X11_side) (M' := M_X11_isNoSignPoint) rfl rfl dX11_side_1 m_X11_isNoSignPoint t_2309 t_2310 (q4334 hl c0 c1) rfl rfl (Nat.le_of_ble_eq_true rfl) (Nat.le_of_ble_eq_true rfl) (Nat.le_of_ble_eq_true rfl) (Nat.le_of_ble_eq_true rfl) ?_
  refine x_if_ne (M := M_X11_side) (tgt := 21) dX11_side_4 (by decide) (fun q => absurd q (by decide +kernel)) (fun _ => ?_)
  refine x_iload_n (M := M_X11_side) dX11_side_7 rfl ?_
  refine x_callSR (M := M_X11_side) (M' := M_X11_isNoSignPoint) rfl rfl dX11_side_8 m_X11_isNoSignPoint t_2309 t_2310 (q6557 hl c2 c3) rfl rfl (Nat.le_of_ble_eq_true rfl) (Nat.le_of_ble_eq_true rfl) (Nat.le_of_ble_eq_true rfl) (Nat.le_of_ble_eq_true rfl) ?_
  refine x_if_ne (M := M_X11_side) (tgt := 21) dX11_side_11 (by decide) (fun q => absurd q (by decide +kernel)) (fun _ => ?_)
  refine x_iload_n (M := M_X11_side) dX11_side_14 rfl ?_
  refine x_callSR (M := M_X11_side) (M' := M_X11_isNoSignPoint) rfl rfl dX11_side_15 m_X11_isNoSignPoint t_2309 t_2310 (q6558 hl c4) rfl rfl (Nat.le_of_ble_eq_true rfl) (Nat.le_of_ble_eq_true rfl) (Nat.le_of_ble_eq_true rfl) (Nat.le_of_ble_eq_true rfl) ?_
  refine x_if_eq (M := M_X11_side) (tgt := 29) dX11_side_18 (by decide) (fun q => absurd q (by decide +kernel)) (fun _ => ?_)
  exact x_throw (M := M_X11_side) (names := en_nm) rfl dX11_side_21 dX11_side_24 dX11_side_25 dX11_side_28 (by decide +kernel) en_nm_ok (Or.inl t_748) (Or.inl t_22) (at_X11_IndexOutOfBoundsException_139) (Nat.le_of_ble_eq_true rfl) (Nat.le_of_ble_eq_true rfl) (Nat.le_of_ble_eq_true rfl) (Nat.le_of_ble_eq_true rfl) (fun n9 => ⟨rfl, (fr_tr (fr_app (List.replicate n9 none)) (fun _ h => nomatch h) fr_rf), trivial⟩)
set_option maxRecDepth 10000 in
theorem q6565 {l : Launch} {E : EE} (hl : l.stackTraces = false) {h : HP} {a0 : Int32} {a1 : Int32} {a2 : Int32} (c0 : ¬ (a0.toInt < 0)) (c1 : a0.toInt < 32) (c2 : ¬ (a1.toInt < 0)) (c3 : a1.toInt < 32) (c4 : a2.toInt < 0) (o6561 : ob h 32 = some (.inr (14, [.ref 33, .ref 162, .ref 166, .int (0 : Int32), .int (0 : Int32), .int (0 : Int32), .ref 167, .ref 170, .ref 173, .ref 177, .ref 193, .ref 208, .ref 222, .ref 238, .ref 252, .ref 274, .ref 275, .ref 276, .int (0 : Int32)]))) : en_C l E M_L_side 7 1 6 [.ref 32, .int a0, .int a1, .int a2, .ref 359] h (pF (some (.int (Int32.ofInt 1))) [] h (fun _ => True)) := by
  refine en_mkW m_L_side rfl hl (Nat.le_of_ble_eq_true rfl) ?_
  refine x_aload (M := M_L_side) dL_side_0 rfl ?_
  refine x_iconst (M := M_L_side) dL_side_2 ?_
  refine x_aload_n (M := M_L_side) dL_side_3 rfl ?_
  refine x_iload_n (M := M_L_side) dL_side_4 rfl ?_
  refine x_iload_n (M := M_L_side) dL_side_5 rfl ?_
  refine x_iload_n (M := M_L_side) dL_side_6 rfl ?_
  refine y_callVHX (M := M_L_side) (M' := M_X11_side) (i9 := 5) (nx := 17) rfl dL_side_7 m_X11_side t_2319 t_2320 t_2321 o6561 rfl (q6560 hl c0 c1 c2 c3 c4) rfl rfl (Nat.le_of_ble_eq_true rfl) (Nat.le_of_ble_eq_true rfl) (Nat.le_of_ble_eq_true rfl) (Nat.le_of_ble_eq_true rfl) (en_hdm (k0 := 5) [] [] rfl (fun _ h => nomatch h) (by decide +kernel) (by decide) t_739 n_750 dL_side_15) (by decide) rfl (fun h6562 f6563 w6564 => ?_)
  refine x_iconst (M := M_L_side) dL_side_17 ?_
  exact x_iret (M := M_L_side) dL_side_18 rfl ⟨rfl, (fr_tr f6563 (fun _ h => nomatch h) fr_rf), trivial⟩ (Nat.le_of_ble_eq_true rfl) (Nat.le_of_ble_eq_true rfl)
set_option maxRecDepth 10000 in
theorem q6574 {l : Launch} {E : EE} (hl : l.stackTraces = false) {h : HP} {a1 : Int32} (c0 : ¬ (a1.toInt < 0)) (c1 : a1.toInt < 32) : en_C l E M_X12_isPoint 0 0 0 [.int a1] h (pR (some (.int (Int32.ofInt 1))) h) := by
  refine en_mk m_X12_isPoint rfl hl (Nat.le_of_ble_eq_true rfl) ?_
  refine x_iload_n (M := M_X12_isPoint) dX12_isPoint_0 rfl ?_
  refine x_if_lt (M := M_X12_isPoint) (tgt := 14) dX12_isPoint_1 (by decide) (fun q => absurd ((bi_lt rfl (by decide +kernel)).mp q) (by omega : ¬ (a1.toInt < 0))) (fun _ => ?_)
  refine x_iload_n (M := M_X12_isPoint) dX12_isPoint_4 rfl ?_
  refine x_bipush (M := M_X12_isPoint) dX12_isPoint_5 ?_
  refine x_icmp_ge (M := M_X12_isPoint) (tgt := 14) dX12_isPoint_7 (by decide) (fun q => absurd ((bi_le (by decide +kernel) rfl).mp q) (by omega : ¬ (32 ≤ a1.toInt))) (fun _ => ?_)
  refine x_iconst (M := M_X12_isPoint) dX12_isPoint_10 ?_
  refine x_goto (M := M_X12_isPoint) (tgt := 15) dX12_isPoint_11 (by decide) ?_
  exact x_zret (M := M_X12_isPoint) dX12_isPoint_15 rfl (by decide) ⟨rfl, rfl⟩ (Nat.le_of_ble_eq_true rfl) (Nat.le_of_ble_eq_true rfl)
set_option maxRecDepth 10000 in
theorem q6575 {l : Launch} {E : EE} (hl : l.stackTraces = false) {h : HP} {a2 : Int32} (c0 : a2.toInt < 0) : en_C l E M_X12_isPoint 0 0 0 [.int a2] h (pR (some (.int (Int32.ofInt 0))) h) := by
  refine en_mk m_X12_isPoint rfl hl (Nat.le_of_ble_eq_true rfl) ?_
  refine x_iload_n (M := M_X12_isPoint) dX12_isPoint_0 rfl ?_
  refine x_if_lt (M := M_X12_isPoint) (tgt := 14) dX12_isPoint_1 (by decide) (fun _ => ?_) (fun q => absurd ((bi_lt rfl (by decide +kernel)).mpr (by omega : (a2.toInt < 0 : Prop))) q)
  refine x_iconst (M := M_X12_isPoint) dX12_isPoint_14 ?_
  exact x_zret (M := M_X12_isPoint) dX12_isPoint_15 rfl (by decide) ⟨rfl, rfl⟩ (Nat.le_of_ble_eq_true rfl) (Nat.le_of_ble_eq_true rfl)
set_option maxRecDepth 10000 in
theorem q6580 {l : Launch} {E : EE} (hl : l.stackTraces = false) {h : HP} {a0 : Int32} {a1 : Int32} {a2 : Int32} {dg : Int32} (c0 : ¬ (a0.toInt < 0)) (c1 : a0.toInt < 32) (c2 : ¬ (a1.toInt < 0)) (c3 : a1.toInt < 32) (c4 : a2.toInt < 0) (o6570 : ob h 277 = some (.inr (15, (RB dg)))) : en_C l E M_X12_side 1 0 0 [.ref 277, .int a0, .int a1, .int a2] h (pF (some (.int (Int32.ofInt 0))) [277] h (fun h' => ob h' 277 = some (.inr (15, ((RB dg).set 0 (.int (Int32.ofInt 1))))) ∧ True)) := by
  refine en_mk m_X12_side rfl hl (Nat.le_of_ble_eq_true rfl) ?_
  refine x_aload_n (M := M_X12_side) dX12_side_0 rfl ?_
  refine x_iconst (M := M_X12_side) dX12_side_1 ?_
  refine y_put (M := M_X12_side) (ci := 15) (C := RX12) (T := TX12) (N := 135) (ty := tyX12) cl15 dX12_side_2 o6570 0 (by decide) t_2391 (Or.inl rfl) (Nat.le_of_ble_eq_true rfl) rfl (fun h6571 w6572 f6573 => ?_)
  refine x_aload_n (M := M_X12_side) dX12_side_5 rfl ?_
  refine x_iload_n (M := M_X12_side) dX12_side_6 rfl ?_
  refine x_callSR (M := M_X12_side) (M' := M_X12_isPoint) rfl rfl dX12_side_7 m_X12_isPoint t_3154 t_3155 (q4351 hl c0 c1) rfl rfl (Nat.le_of_ble_eq_true rfl) (Nat.le_of_ble_eq_true rfl) (Nat.le_of_ble_eq_true rfl) (Nat.le_of_ble_eq_true rfl) ?_
  refine x_if_eq (M := M_X12_side) (tgt := 27) dX12_side_10 (by decide) (fun q => absurd q (by decide +kernel)) (fun _ => ?_)
  refine x_iload_n (M := M_X12_side) dX12_side_13 rfl ?_
  refine x_callSR (M := M_X12_side) (M' := M_X12_isPoint) rfl rfl dX12_side_14 m_X12_isPoint t_3154 t_3155 (q6574 hl c2 c3) rfl rfl (Nat.le_of_ble_eq_true rfl) (Nat.le_of_ble_eq_true rfl) (Nat.le_of_ble_eq_true rfl) (Nat.le_of_ble_eq_true rfl) ?_
  refine x_if_eq (M := M_X12_side) (tgt := 27) dX12_side_17 (by decide) (fun q => absurd q (by decide +kernel)) (fun _ => ?_)
  refine x_iload_n (M := M_X12_side) dX12_side_20 rfl ?_
  refine x_callSR (M := M_X12_side) (M' := M_X12_isPoint) rfl rfl dX12_side_21 m_X12_isPoint t_3154 t_3155 (q6575 hl c4) rfl rfl (Nat.le_of_ble_eq_true rfl) (Nat.le_of_ble_eq_true rfl) (Nat.le_of_ble_eq_true rfl) (Nat.le_of_ble_eq_true rfl) ?_
  refine x_if_ne (M := M_X12_side) (tgt := 31) dX12_side_24 (by decide) (fun q => absurd q (by decide +kernel)) (fun _ => ?_)
  refine x_iconst (M := M_X12_side) dX12_side_27 ?_
  refine x_goto (M := M_X12_side) (tgt := 32) dX12_side_28 (by decide) ?_
  refine x_iconst (M := M_X12_side) dX12_side_32 ?_
  refine y_callVR (M := M_X12_side) (M' := M_X12_fails) rfl rfl dX12_side_33 m_X12_fails t_2805 t_2807 s_157 (q22 hl w6572) rfl rfl w6572 rfl (Nat.le_of_ble_eq_true rfl) (Nat.le_of_ble_eq_true rfl) (Nat.le_of_ble_eq_true rfl) (Nat.le_of_ble_eq_true rfl) (fun h6576 f6577 w6578 => ?_)
  obtain ⟨o6579, -⟩ := w6578
  refine x_if_eq (M := M_X12_side) (tgt := 41) dX12_side_36 (by decide) (fun q => absurd q (by decide +kernel)) (fun _ => ?_)
  refine x_iconst (M := M_X12_side) dX12_side_39 ?_
  exact x_iret (M := M_X12_side) dX12_side_40 rfl ⟨rfl, (fr_tr f6577 (by decide) (fr_tr f6573 (by decide) fr_rf)), ⟨o6579, trivial⟩⟩ (Nat.le_of_ble_eq_true rfl) (Nat.le_of_ble_eq_true rfl)
set_option maxRecDepth 10000 in
theorem lc30_2 {l : Launch} {E : EE} (hl : l.stackTraces = false) (nm : String) {xs : Nat → Int32} (hx : E.2.2.2.2 0 = some (7, xs)) {h : HP} {a0 : Int32} {a1 : Int32} {a2 : Int32} {dg : Int32} (e2 : xs 2 = a0) (e3 : xs 3 = a1) (e4 : xs 4 = a2) (c0 : ¬ (a0.toInt < 0)) (c1 : a0.toInt < 32) (c2 : ¬ (a1.toInt < 0)) (c3 : a1.toInt < 32) (c4 : a2.toInt < 0) (o6566 : ob h 32 = some (.inr (14, [.ref 33, .ref 162, .ref 166, .int (0 : Int32), .int (0 : Int32), .int (0 : Int32), .ref 167, .ref 170, .ref 173, .ref 177, .ref 193, .ref 208, .ref 222, .ref 238, .ref 252, .ref 274, .ref 275, .ref 276, .int (0 : Int32)]))) (o6581 : ob h 277 = some (.inr (15, (RB dg)))) : XX l E (M_law nm) 1312 342628 8074320 (fun o _ => o = .inl (some (.int 1))) 2277 [some (.ref 0), some (.ref 32), some (.ref 277), some (.ref 359), some (.int (Int32.ofInt 1)), none, none, none] [] h 328 2463747 := by
  refine x_aload_n (M := (M_law nm)) dL_law_2277 rfl ?_
  refine x_aload_n (M := (M_law nm)) dL_law_2278 rfl ?_
  refine x_iload (M := (M_law nm)) dL_law_2279 rfl ?_
  refine x_iconst (M := (M_law nm)) dL_law_2281 ?_
  refine x_iadd (M := (M_law nm)) dL_law_2282 ?_
  refine x_sald (M := (M_law nm)) dL_law_2283 (by decide) hx (vp_inD (by decide +kernel)) ?_
  refine x_top (M := (M_law nm)) (y := a0) ((congrArg xs (by decide +kernel : ((Int32.ofInt 1) + (Int32.ofInt 1)).toNatClampNeg = 2)).trans e2) ?_
  refine x_aload_n (M := (M_law nm)) dL_law_2284 rfl ?_
  refine x_iload (M := (M_law nm)) dL_law_2285 rfl ?_
  refine x_iconst (M := (M_law nm)) dL_law_2287 ?_
  refine x_iadd (M := (M_law nm)) dL_law_2288 ?_
  refine x_sald (M := (M_law nm)) dL_law_2289 (by decide) hx (vp_inD (by decide +kernel)) ?_
  refine x_top (M := (M_law nm)) (y := a1) ((congrArg xs (by decide +kernel : ((Int32.ofInt 1) + (Int32.ofInt 2)).toNatClampNeg = 3)).trans e3) ?_
  refine x_aload_n (M := (M_law nm)) dL_law_2290 rfl ?_
  refine x_iload (M := (M_law nm)) dL_law_2291 rfl ?_
  refine x_iconst (M := (M_law nm)) dL_law_2293 ?_
  refine x_iadd (M := (M_law nm)) dL_law_2294 ?_
  refine x_sald (M := (M_law nm)) dL_law_2295 (by decide) hx (vp_inD (by decide +kernel)) ?_
  refine x_top (M := (M_law nm)) (y := a2) ((congrArg xs (by decide +kernel : ((Int32.ofInt 1) + (Int32.ofInt 3)).toNatClampNeg = 4)).trans e4) ?_
  refine x_aload_n (M := (M_law nm)) dL_law_2296 rfl ?_
  refine y_callSW (M := (M_law nm)) (M' := M_L_side) rfl rfl dL_law_2297 m_L_side t_2316 t_2317 (q6565 hl c0 c1 c2 c3 c4 o6566) rfl rfl (Nat.le_of_ble_eq_true rfl) (Nat.le_of_ble_eq_true rfl) (Nat.le_of_ble_eq_true rfl) (Nat.le_of_ble_eq_true rfl) (fun h6567 f6568 w6569 => ?_)
  refine x_istore (M := (M_law nm)) dL_law_2300 (Nat.le_of_ble_eq_true rfl) rfl ?_
  refine x_aload_n (M := (M_law nm)) dL_law_2302 rfl ?_
  refine x_aload_n (M := (M_law nm)) dL_law_2303 rfl ?_
  refine x_iload (M := (M_law nm)) dL_law_2304 rfl ?_
  refine x_iconst (M := (M_law nm)) dL_law_2306 ?_
  refine x_iadd (M := (M_law nm)) dL_law_2307 ?_
  refine x_sald (M := (M_law nm)) dL_law_2308 (by decide) hx (vp_inD (by decide +kernel)) ?_
  refine x_top (M := (M_law nm)) (y := a0) ((congrArg xs (by decide +kernel : ((Int32.ofInt 1) + (Int32.ofInt 1)).toNatClampNeg = 2)).trans e2) ?_
  refine x_aload_n (M := (M_law nm)) dL_law_2309 rfl ?_
  refine x_iload (M := (M_law nm)) dL_law_2310 rfl ?_
  refine x_iconst (M := (M_law nm)) dL_law_2312 ?_
  refine x_iadd (M := (M_law nm)) dL_law_2313 ?_
  refine x_sald (M := (M_law nm)) dL_law_2314 (by decide) hx (vp_inD (by decide +kernel)) ?_
  refine x_top (M := (M_law nm)) (y := a1) ((congrArg xs (by decide +kernel : ((Int32.ofInt 1) + (Int32.ofInt 2)).toNatClampNeg = 3)).trans e3) ?_
  refine x_aload_n (M := (M_law nm)) dL_law_2315 rfl ?_
  refine x_iload (M := (M_law nm)) dL_law_2316 rfl ?_
  refine x_iconst (M := (M_law nm)) dL_law_2318 ?_
  refine x_iadd (M := (M_law nm)) dL_law_2319 ?_
  refine x_sald (M := (M_law nm)) dL_law_2320 (by decide) hx (vp_inD (by decide +kernel)) ?_
  refine x_top (M := (M_law nm)) (y := a2) ((congrArg xs (by decide +kernel : ((Int32.ofInt 1) + (Int32.ofInt 3)).toNatClampNeg = 4)).trans e4) ?_
  have o6582 := (f6568 277 _ (by decide) o6581)
  refine y_callVR (M := (M_law nm)) (M' := M_X12_side) rfl rfl dL_law_2321 m_X12_side t_3157 t_3158 t_3159 (q6580 hl c0 c1 c2 c3 c4 o6582) rfl rfl o6582 rfl (Nat.le_of_ble_eq_true rfl) (Nat.le_of_ble_eq_true rfl) (Nat.le_of_ble_eq_true rfl) (Nat.le_of_ble_eq_true rfl) (fun h6583 f6584 w6585 => ?_)
  obtain ⟨o6586, -⟩ := w6585
  refine x_istore (M := (M_law nm)) dL_law_2324 (Nat.le_of_ble_eq_true rfl) rfl ?_
  refine x_aload_n (M := (M_law nm)) dL_law_2326 rfl ?_
  refine x_callVR (M := (M_law nm)) (M' := M_X12_thrown) rfl rfl dL_law_2327 m_X12_thrown t_2797 t_2798 t_2799 (q35 hl o6586) rfl rfl o6586 rfl (Nat.le_of_ble_eq_true rfl) (Nat.le_of_ble_eq_true rfl) (Nat.le_of_ble_eq_true rfl) (Nat.le_of_ble_eq_true rfl) ?_
  refine x_iload (M := (M_law nm)) dL_law_2330 rfl ?_
  refine x_icmp_eq (M := (M_law nm)) (tgt := 2337) dL_law_2332 (by decide) (fun _ => ?_) (fun q => absurd q (by decide +kernel))
  refine x_iload (M := (M_law nm)) dL_law_2337 rfl ?_
  refine x_if_ne (M := (M_law nm)) (tgt := 2354) dL_law_2339 (by decide) (fun _ => ?_) (fun q => absurd q (by decide +kernel))
  refine x_goto (M := (M_law nm)) (tgt := 2449) dL_law_2354 (by decide) ?_
  refine x_iinc (M := (M_law nm)) dL_law_2449 rfl (Nat.le_of_ble_eq_true rfl) rfl ?_
  refine x_lvs (M := (M_law nm)) (lv' := [some (.ref 0), some (.ref 32), some (.ref 277), some (.ref 359), some (.int (Int32.ofInt 7)), some (.int (Int32.ofInt 1)), some (.int (Int32.ofInt 0)), none]) (by rw [(by decide +kernel : (Int32.ofInt 1) + Int32.ofInt 6 = (Int32.ofInt 7))] <;> rfl) ?_
  refine x_goto (M := (M_law nm)) (tgt := 33) dL_law_2452 (by decide) ?_
  refine x_iload (M := (M_law nm)) dL_law_33 rfl ?_
  refine x_aload_n (M := (M_law nm)) dL_law_35 rfl ?_
  refine x_slen (M := (M_law nm)) dL_law_36 (by decide) hx ?_
  refine x_bipush (M := (M_law nm)) dL_law_37 ?_
  refine x_isub (M := (M_law nm)) dL_law_39 ?_
  refine x_icmp_gt (M := (M_law nm)) (tgt := 2455) dL_law_40 (by decide) (fun _ => ?_) (fun q => absurd q (by decide +kernel))
  refine x_iconst (M := (M_law nm)) dL_law_2455 ?_
  exact x_zret (M := (M_law nm)) dL_law_2456 rfl (by decide) rfl (Nat.le_of_ble_eq_true rfl) (Nat.le_of_ble_eq_true rfl)
set_option maxRecDepth 10000 in
theorem q6587 {l : Launch} {E : EE} (hl : l.stackTraces = false) {h : HP} {a2 : Int32} (c0 : ¬ (a2.toInt < 0)) (c1 : a2.toInt < 32) : en_C l E M_X11_isNoSignPoint 0 0 0 [.int a2] h (pR (some (.int (Int32.ofInt 0))) h) := by
  refine en_mk m_X11_isNoSignPoint rfl hl (Nat.le_of_ble_eq_true rfl) ?_
  refine x_iload_n (M := M_X11_isNoSignPoint) dX11_isNoSignPoint_0 rfl ?_
  refine x_if_lt (M := M_X11_isNoSignPoint) (tgt := 10) dX11_isNoSignPoint_1 (by decide) (fun q => absurd ((bi_lt rfl (by decide +kernel)).mp q) (by omega : ¬ (a2.toInt < 0))) (fun _ => ?_)
  refine x_iload_n (M := M_X11_isNoSignPoint) dX11_isNoSignPoint_4 rfl ?_
  refine x_bipush (M := M_X11_isNoSignPoint) dX11_isNoSignPoint_5 ?_
  refine x_icmp_lt (M := M_X11_isNoSignPoint) (tgt := 14) dX11_isNoSignPoint_7 (by decide) (fun _ => ?_) (fun q => absurd ((bi_lt rfl (by decide +kernel)).mpr (by omega : (a2.toInt < 32 : Prop))) q)
  refine x_iconst (M := M_X11_isNoSignPoint) dX11_isNoSignPoint_14 ?_
  exact x_zret (M := M_X11_isNoSignPoint) dX11_isNoSignPoint_15 rfl (by decide) ⟨rfl, rfl⟩ (Nat.le_of_ble_eq_true rfl) (Nat.le_of_ble_eq_true rfl)
set_option maxRecDepth 10000 in
theorem q6594 {l : Launch} {E : EE} (hl : l.stackTraces = false) {h : HP} : en_C l E M_J7_rangeCheck_23922 0 0 0 [.int (Int32.ofInt 280), .int (Int32.ofInt 0), .int (Int32.ofInt 3)] h (pR none h) := by
  refine en_mk m_J7_rangeCheck_23922 rfl hl (Nat.le_of_ble_eq_true rfl) ?_
  refine x_iload_n (M := M_J7_rangeCheck_23922) dJ7_rangeCheck_23922_0 rfl ?_
  refine x_iload_n (M := M_J7_rangeCheck_23922) dJ7_rangeCheck_23922_1 rfl ?_
  refine x_icmp_le (M := M_J7_rangeCheck_23922) (tgt := 46) dJ7_rangeCheck_23922_2 (by decide) (fun _ => ?_) (fun q => absurd q (by decide +kernel))
  refine x_iload_n (M := M_J7_rangeCheck_23922) dJ7_rangeCheck_23922_46 rfl ?_
  refine x_if_ge (M := M_J7_rangeCheck_23922) (tgt := 59) dJ7_rangeCheck_23922_47 (by decide) (fun _ => ?_) (fun q => absurd q (by decide +kernel))
  refine x_iload_n (M := M_J7_rangeCheck_23922) dJ7_rangeCheck_23922_59 rfl ?_
  refine x_iload_n (M := M_J7_rangeCheck_23922) dJ7_rangeCheck_23922_60 rfl ?_
  refine x_icmp_le (M := M_J7_rangeCheck_23922) (tgt := 73) dJ7_rangeCheck_23922_61 (by decide) (fun _ => ?_) (fun q => absurd q (by decide +kernel))
  exact x_vret (M := M_J7_rangeCheck_23922) dJ7_rangeCheck_23922_73 rfl ⟨rfl, rfl⟩ (Nat.le_of_ble_eq_true rfl) (Nat.le_of_ble_eq_true rfl)
set_option maxRecDepth 10000 in
theorem q6607 {l : Launch} {E : EE} (hl : l.stackTraces = false) {h : HP} (o6593 : ob h 256 = some (.inl (0, 280, .inl (fun _ => 0)))) : en_C l E M_J7_fill_fda19 1 0 0 [.ref 256, .int (Int32.ofInt 0), .int (Int32.ofInt 3), .int (Int32.ofInt 0)] h (pF none [256] h (fun h' => ob h' 256 = some (.inl (0, 280, .inl (fun _ => 0))) ∧ True)) := by
  refine en_mk m_J7_fill_fda19 rfl hl (Nat.le_of_ble_eq_true rfl) ?_
  refine x_aload_n (M := M_J7_fill_fda19) dJ7_fill_fda19_0 rfl ?_
  refine x_alen (M := M_J7_fill_fda19) dJ7_fill_fda19_1 o6593 (by decide) ?_
  refine x_iload_n (M := M_J7_fill_fda19) dJ7_fill_fda19_2 rfl ?_
  refine x_iload_n (M := M_J7_fill_fda19) dJ7_fill_fda19_3 rfl ?_
  refine x_norm (M := M_J7_fill_fda19) (st' := [.int (Int32.ofInt 3), .int (Int32.ofInt 0), .int (Int32.ofInt 280)]) rfl (v_cons (v_cons (vi_cons (by decide +kernel : (Int32.ofNat 280) = (Int32.ofInt 280)) rfl))) rfl rfl rfl ?_
  refine x_callSR (M := M_J7_fill_fda19) (M' := M_J7_rangeCheck_23922) rfl rfl dJ7_fill_fda19_4 m_J7_rangeCheck_23922 t_1524 t_1525 (q6594 hl) rfl rfl (Nat.le_of_ble_eq_true rfl) (Nat.le_of_ble_eq_true rfl) (Nat.le_of_ble_eq_true rfl) (Nat.le_of_ble_eq_true rfl) ?_
  refine x_iload_n (M := M_J7_fill_fda19) dJ7_fill_fda19_7 rfl ?_
  refine x_istore (M := M_J7_fill_fda19) dJ7_fill_fda19_8 (Nat.le_of_ble_eq_true rfl) rfl ?_
  refine x_iload (M := M_J7_fill_fda19) dJ7_fill_fda19_10 rfl ?_
  refine x_iload_n (M := M_J7_fill_fda19) dJ7_fill_fda19_12 rfl ?_
  refine x_icmp_ge (M := M_J7_fill_fda19) (tgt := 27) dJ7_fill_fda19_13 (by decide) (fun q => absurd q (by decide +kernel)) (fun _ => ?_)
  refine x_aload_n (M := M_J7_fill_fda19) dJ7_fill_fda19_16 rfl ?_
  refine x_iload (M := M_J7_fill_fda19) dJ7_fill_fda19_17 rfl ?_
  refine x_iload_n (M := M_J7_fill_fda19) dJ7_fill_fda19_19 rfl ?_
  refine y_iast (M := M_J7_fill_fda19) (k := 0) dJ7_fill_fda19_20 o6593 (vp_inD (by decide +kernel)) (by decide +kernel) (fun h6595 w6596 f6597 => ?_)
  have w6598 : ob h6595 256 = some (.inl (0, 280, .inl (fun _ => 0))) := by rw [w6596, up_z (k := 0)]
  refine x_iinc (M := M_J7_fill_fda19) dJ7_fill_fda19_21 rfl (Nat.le_of_ble_eq_true rfl) rfl ?_
  refine x_lvs (M := M_J7_fill_fda19) (lv' := [some (.ref 256), some (.int (Int32.ofInt 0)), some (.int (Int32.ofInt 3)), some (.int (Int32.ofInt 0)), some (.int (Int32.ofInt 1))]) (by rw [(by decide +kernel : (Int32.ofInt 0) + Int32.ofInt 1 = (Int32.ofInt 1))] <;> rfl) ?_
  refine x_goto (M := M_J7_fill_fda19) (tgt := 10) dJ7_fill_fda19_24 (by decide) ?_
  refine x_iload (M := M_J7_fill_fda19) dJ7_fill_fda19_10 rfl ?_
  refine x_iload_n (M := M_J7_fill_fda19) dJ7_fill_fda19_12 rfl ?_
  refine x_icmp_ge (M := M_J7_fill_fda19) (tgt := 27) dJ7_fill_fda19_13 (by decide) (fun q => absurd q (by decide +kernel)) (fun _ => ?_)
  refine x_aload_n (M := M_J7_fill_fda19) dJ7_fill_fda19_16 rfl ?_
  refine x_iload (M := M_J7_fill_fda19) dJ7_fill_fda19_17 rfl ?_
  refine x_iload_n (M := M_J7_fill_fda19) dJ7_fill_fda19_19 rfl ?_
  refine y_iast (M := M_J7_fill_fda19) (k := 1) dJ7_fill_fda19_20 w6598 (vp_inD (by decide +kernel)) (by decide +kernel) (fun h6599 w6600 f6601 => ?_)
  have w6602 : ob h6599 256 = some (.inl (0, 280, .inl (fun _ => 0))) := by rw [w6600, up_z (k := 1)]
  refine x_iinc (M := M_J7_fill_fda19) dJ7_fill_fda19_21 rfl (Nat.le_of_ble_eq_true rfl) rfl ?_
  refine x_lvs (M := M_J7_fill_fda19) (lv' := [some (.ref 256), some (.int (Int32.ofInt 0)), some (.int (Int32.ofInt 3)), some (.int (Int32.ofInt 0)), some (.int (Int32.ofInt 2))]) (by rw [(by decide +kernel : (Int32.ofInt 1) + Int32.ofInt 1 = (Int32.ofInt 2))] <;> rfl) ?_
  refine x_goto (M := M_J7_fill_fda19) (tgt := 10) dJ7_fill_fda19_24 (by decide) ?_
  refine x_iload (M := M_J7_fill_fda19) dJ7_fill_fda19_10 rfl ?_
  refine x_iload_n (M := M_J7_fill_fda19) dJ7_fill_fda19_12 rfl ?_
  refine x_icmp_ge (M := M_J7_fill_fda19) (tgt := 27) dJ7_fill_fda19_13 (by decide) (fun q => absurd q (by decide +kernel)) (fun _ => ?_)
  refine x_aload_n (M := M_J7_fill_fda19) dJ7_fill_fda19_16 rfl ?_
  refine x_iload (M := M_J7_fill_fda19) dJ7_fill_fda19_17 rfl ?_
  refine x_iload_n (M := M_J7_fill_fda19) dJ7_fill_fda19_19 rfl ?_
  refine y_iast (M := M_J7_fill_fda19) (k := 2) dJ7_fill_fda19_20 w6602 (vp_inD (by decide +kernel)) (by decide +kernel) (fun h6603 w6604 f6605 => ?_)
  have w6606 : ob h6603 256 = some (.inl (0, 280, .inl (fun _ => 0))) := by rw [w6604, up_z (k := 2)]
  refine x_iinc (M := M_J7_fill_fda19) dJ7_fill_fda19_21 rfl (Nat.le_of_ble_eq_true rfl) rfl ?_
  refine x_lvs (M := M_J7_fill_fda19) (lv' := [some (.ref 256), some (.int (Int32.ofInt 0)), some (.int (Int32.ofInt 3)), some (.int (Int32.ofInt 0)), some (.int (Int32.ofInt 3))]) (by rw [(by decide +kernel : (Int32.ofInt 2) + Int32.ofInt 1 = (Int32.ofInt 3))] <;> rfl) ?_
  refine x_goto (M := M_J7_fill_fda19) (tgt := 10) dJ7_fill_fda19_24 (by decide) ?_
  refine x_iload (M := M_J7_fill_fda19) dJ7_fill_fda19_10 rfl ?_
  refine x_iload_n (M := M_J7_fill_fda19) dJ7_fill_fda19_12 rfl ?_
  refine x_icmp_ge (M := M_J7_fill_fda19) (tgt := 27) dJ7_fill_fda19_13 (by decide) (fun _ => ?_) (fun q => absurd q (by decide +kernel))
  exact x_vret (M := M_J7_fill_fda19) dJ7_fill_fda19_27 rfl ⟨rfl, (fr_tr f6605 (by decide) (fr_tr f6601 (by decide) (fr_tr f6597 (by decide) fr_rf))), ⟨w6606, trivial⟩⟩ (Nat.le_of_ble_eq_true rfl) (Nat.le_of_ble_eq_true rfl)
set_option maxRecDepth 10000 in
theorem q6673 {l : Launch} {E : EE} (hl : l.stackTraces = false) {h : HP} (o6643 : ob h 252 = some (.inr (10, [.ref 253, .ref 254, .ref 255, .ref 272, .ref 273]))) (o6644 : ob h 272 = some (.inl (0, 16, .inl (upd (fun _ => 0) 0 (Int32.ofInt 3))))) (o6645 : ob h 255 = some (.inl (5, 16, .inr (.inr (.inr (.inr (fun i => if i < 16 then some (255 + 1 + i) else none))))))) (o6646 : ob h 256 = some (.inl (0, 280, .inl (fun _ => 0)))) (o6666 : ob h 273 = some (.inl (0, 16, .inl (upd (fun _ => 0) 0 (Int32.ofInt 1))))) : en_C l E M_X7_trim 0 0 0 [.ref 252, .int (Int32.ofInt 0)] h (pF none [272, 273] h (fun h' => ob h' 272 = some (.inl (0, 16, .inl (fun _ => 0))) ∧ ob h' 273 = some (.inl (0, 16, .inl (fun _ => 0))) ∧ True)) := by
  refine en_mk m_X7_trim rfl hl (Nat.le_of_ble_eq_true rfl) ?_
  refine x_aload_n (M := M_X7_trim) dX7_trim_0 rfl ?_
  refine x_getf (M := M_X7_trim) (ci := 10) (C := RX7) (T := TX7) (N := 5) (ty := tyX7) cl10 dX7_trim_1 o6643 3 (by decide) t_550 (v := .ref 272) rfl ?_
  refine x_iload_n (M := M_X7_trim) dX7_trim_4 rfl ?_
  refine x_iald (M := M_X7_trim) dX7_trim_5 o6644 (vp_inD (by decide +kernel)) ?_
  refine x_top (M := M_X7_trim) (y := (Int32.ofInt 3)) (by decide +kernel) ?_
  refine x_if_le (M := M_X7_trim) (tgt := 40) dX7_trim_6 (by decide) (fun q => absurd q (by decide +kernel)) (fun _ => ?_)
  refine x_aload_n (M := M_X7_trim) dX7_trim_9 rfl ?_
  refine x_getf (M := M_X7_trim) (ci := 10) (C := RX7) (T := TX7) (N := 5) (ty := tyX7) cl10 dX7_trim_10 o6643 2 (by decide) t_549 (v := .ref 255) rfl ?_
  refine x_iload_n (M := M_X7_trim) dX7_trim_13 rfl ?_
  refine x_gald (M := M_X7_trim) (b := 256) dX7_trim_14 o6645 (vp_inD (by decide +kernel)) (by decide +kernel) ?_
  refine x_aload_n (M := M_X7_trim) dX7_trim_15 rfl ?_
  refine x_getf (M := M_X7_trim) (ci := 10) (C := RX7) (T := TX7) (N := 5) (ty := tyX7) cl10 dX7_trim_16 o6643 3 (by decide) t_550 (v := .ref 272) rfl ?_
  refine x_iload_n (M := M_X7_trim) dX7_trim_19 rfl ?_
  refine x_iald (M := M_X7_trim) dX7_trim_20 o6644 (vp_inD (by decide +kernel)) ?_
  refine x_top (M := M_X7_trim) (y := (Int32.ofInt 3)) (by decide +kernel) ?_
  refine x_iconst (M := M_X7_trim) dX7_trim_21 ?_
  refine x_isub (M := M_X7_trim) dX7_trim_22 ?_
  refine x_iald (M := M_X7_trim) dX7_trim_23 o6646 (vp_inD (by decide +kernel)) ?_
  refine x_top (M := M_X7_trim) (y := (Int32.ofInt 0)) (by decide +kernel) ?_
  refine x_if_ne (M := M_X7_trim) (tgt := 40) dX7_trim_24 (by decide) (fun q => absurd q (by decide +kernel)) (fun _ => ?_)
  refine x_aload_n (M := M_X7_trim) dX7_trim_27 rfl ?_
  refine x_getf (M := M_X7_trim) (ci := 10) (C := RX7) (T := TX7) (N := 5) (ty := tyX7) cl10 dX7_trim_28 o6643 3 (by decide) t_550 (v := .ref 272) rfl ?_
  refine x_iload_n (M := M_X7_trim) dX7_trim_31 rfl ?_
  refine x_dup2 (M := M_X7_trim) dX7_trim_32 rfl rfl ?_
  refine x_iald (M := M_X7_trim) dX7_trim_33 o6644 (vp_inD (by decide +kernel)) ?_
  refine x_top (M := M_X7_trim) (y := (Int32.ofInt 3)) (by decide +kernel) ?_
  refine x_iconst (M := M_X7_trim) dX7_trim_34 ?_
  refine x_isub (M := M_X7_trim) dX7_trim_35 ?_
  refine x_norm (M := M_X7_trim) (st' := [.int (Int32.ofInt 2), .int (Int32.ofInt 0), .ref 272]) rfl (vi_cons (by decide +kernel : ((Int32.ofInt 3) - (Int32.ofInt 1)) = (Int32.ofInt 2)) rfl) rfl rfl rfl ?_
  refine y_iast (M := M_X7_trim) (k := 0) dX7_trim_36 o6644 (vp_inD (by decide +kernel)) (by decide +kernel) (fun h6647 w6648 f6649 => ?_)
  have w6650 : ob h6647 272 = some (.inl (0, 16, .inl (upd (fun _ => 0) 0 (Int32.ofInt 2)))) := by rw [w6648, up_up (k := 0)]
  refine x_goto (M := M_X7_trim) (tgt := 0) dX7_trim_37 (by decide) ?_
  refine x_aload_n (M := M_X7_trim) dX7_trim_0 rfl ?_
  have o6651 := (f6649 252 _ (by decide) o6643)
  refine x_getf (M := M_X7_trim) (ci := 10) (C := RX7) (T := TX7) (N := 5) (ty := tyX7) cl10 dX7_trim_1 o6651 3 (by decide) t_550 (v := .ref 272) rfl ?_
  refine x_iload_n (M := M_X7_trim) dX7_trim_4 rfl ?_
  refine x_iald (M := M_X7_trim) dX7_trim_5 w6650 (vp_inD (by decide +kernel)) ?_
  refine x_top (M := M_X7_trim) (y := (Int32.ofInt 2)) (by decide +kernel) ?_
  refine x_if_le (M := M_X7_trim) (tgt := 40) dX7_trim_6 (by decide) (fun q => absurd q (by decide +kernel)) (fun _ => ?_)
  refine x_aload_n (M := M_X7_trim) dX7_trim_9 rfl ?_
  refine x_getf (M := M_X7_trim) (ci := 10) (C := RX7) (T := TX7) (N := 5) (ty := tyX7) cl10 dX7_trim_10 o6651 2 (by decide) t_549 (v := .ref 255) rfl ?_
  refine x_iload_n (M := M_X7_trim) dX7_trim_13 rfl ?_
  have o6652 := (f6649 255 _ (by decide) o6645)
  refine x_gald (M := M_X7_trim) (b := 256) dX7_trim_14 o6652 (vp_inD (by decide +kernel)) (by decide +kernel) ?_
  refine x_aload_n (M := M_X7_trim) dX7_trim_15 rfl ?_
  refine x_getf (M := M_X7_trim) (ci := 10) (C := RX7) (T := TX7) (N := 5) (ty := tyX7) cl10 dX7_trim_16 o6651 3 (by decide) t_550 (v := .ref 272) rfl ?_
  refine x_iload_n (M := M_X7_trim) dX7_trim_19 rfl ?_
  refine x_iald (M := M_X7_trim) dX7_trim_20 w6650 (vp_inD (by decide +kernel)) ?_
  refine x_top (M := M_X7_trim) (y := (Int32.ofInt 2)) (by decide +kernel) ?_
  refine x_iconst (M := M_X7_trim) dX7_trim_21 ?_
  refine x_isub (M := M_X7_trim) dX7_trim_22 ?_
  have o6653 := (f6649 256 _ (by decide) o6646)
  refine x_iald (M := M_X7_trim) dX7_trim_23 o6653 (vp_inD (by decide +kernel)) ?_
  refine x_top (M := M_X7_trim) (y := (Int32.ofInt 0)) (by decide +kernel) ?_
  refine x_if_ne (M := M_X7_trim) (tgt := 40) dX7_trim_24 (by decide) (fun q => absurd q (by decide +kernel)) (fun _ => ?_)
  refine x_aload_n (M := M_X7_trim) dX7_trim_27 rfl ?_
  refine x_getf (M := M_X7_trim) (ci := 10) (C := RX7) (T := TX7) (N := 5) (ty := tyX7) cl10 dX7_trim_28 o6651 3 (by decide) t_550 (v := .ref 272) rfl ?_
  refine x_iload_n (M := M_X7_trim) dX7_trim_31 rfl ?_
  refine x_dup2 (M := M_X7_trim) dX7_trim_32 rfl rfl ?_
  refine x_iald (M := M_X7_trim) dX7_trim_33 w6650 (vp_inD (by decide +kernel)) ?_
  refine x_top (M := M_X7_trim) (y := (Int32.ofInt 2)) (by decide +kernel) ?_
  refine x_iconst (M := M_X7_trim) dX7_trim_34 ?_
  refine x_isub (M := M_X7_trim) dX7_trim_35 ?_
  refine x_norm (M := M_X7_trim) (st' := [.int (Int32.ofInt 1), .int (Int32.ofInt 0), .ref 272]) rfl (vi_cons (by decide +kernel : ((Int32.ofInt 2) - (Int32.ofInt 1)) = (Int32.ofInt 1)) rfl) rfl rfl rfl ?_
  refine y_iast (M := M_X7_trim) (k := 0) dX7_trim_36 w6650 (vp_inD (by decide +kernel)) (by decide +kernel) (fun h6654 w6655 f6656 => ?_)
  have w6657 : ob h6654 272 = some (.inl (0, 16, .inl (upd (fun _ => 0) 0 (Int32.ofInt 1)))) := by rw [w6655, up_up (k := 0)]
  refine x_goto (M := M_X7_trim) (tgt := 0) dX7_trim_37 (by decide) ?_
  refine x_aload_n (M := M_X7_trim) dX7_trim_0 rfl ?_
  have o6658 := (f6656 252 _ (by decide) o6651)
  refine x_getf (M := M_X7_trim) (ci := 10) (C := RX7) (T := TX7) (N := 5) (ty := tyX7) cl10 dX7_trim_1 o6658 3 (by decide) t_550 (v := .ref 272) rfl ?_
  refine x_iload_n (M := M_X7_trim) dX7_trim_4 rfl ?_
  refine x_iald (M := M_X7_trim) dX7_trim_5 w6657 (vp_inD (by decide +kernel)) ?_
  refine x_top (M := M_X7_trim) (y := (Int32.ofInt 1)) (by decide +kernel) ?_
  refine x_if_le (M := M_X7_trim) (tgt := 40) dX7_trim_6 (by decide) (fun q => absurd q (by decide +kernel)) (fun _ => ?_)
  refine x_aload_n (M := M_X7_trim) dX7_trim_9 rfl ?_
  refine x_getf (M := M_X7_trim) (ci := 10) (C := RX7) (T := TX7) (N := 5) (ty := tyX7) cl10 dX7_trim_10 o6658 2 (by decide) t_549 (v := .ref 255) rfl ?_
  refine x_iload_n (M := M_X7_trim) dX7_trim_13 rfl ?_
  have o6659 := (f6656 255 _ (by decide) o6652)
  refine x_gald (M := M_X7_trim) (b := 256) dX7_trim_14 o6659 (vp_inD (by decide +kernel)) (by decide +kernel) ?_
  refine x_aload_n (M := M_X7_trim) dX7_trim_15 rfl ?_
  refine x_getf (M := M_X7_trim) (ci := 10) (C := RX7) (T := TX7) (N := 5) (ty := tyX7) cl10 dX7_trim_16 o6658 3 (by decide) t_550 (v := .ref 272) rfl ?_
  refine x_iload_n (M := M_X7_trim) dX7_trim_19 rfl ?_
  refine x_iald (M := M_X7_trim) dX7_trim_20 w6657 (vp_inD (by decide +kernel)) ?_
  refine x_top (M := M_X7_trim) (y := (Int32.ofInt 1)) (by decide +kernel) ?_
  refine x_iconst (M := M_X7_trim) dX7_trim_21 ?_
  refine x_isub (M := M_X7_trim) dX7_trim_22 ?_
  have o6660 := (f6656 256 _ (by decide) o6653)
  refine x_iald (M := M_X7_trim) dX7_trim_23 o6660 (vp_inD (by decide +kernel)) ?_
  refine x_top (M := M_X7_trim) (y := (Int32.ofInt 0)) (by decide +kernel) ?_
  refine x_if_ne (M := M_X7_trim) (tgt := 40) dX7_trim_24 (by decide) (fun q => absurd q (by decide +kernel)) (fun _ => ?_)
  refine x_aload_n (M := M_X7_trim) dX7_trim_27 rfl ?_
  refine x_getf (M := M_X7_trim) (ci := 10) (C := RX7) (T := TX7) (N := 5) (ty := tyX7) cl10 dX7_trim_28 o6658 3 (by decide) t_550 (v := .ref 272) rfl ?_
  refine x_iload_n (M := M_X7_trim) dX7_trim_31 rfl ?_
  refine x_dup2 (M := M_X7_trim) dX7_trim_32 rfl rfl ?_
  refine x_iald (M := M_X7_trim) dX7_trim_33 w6657 (vp_inD (by decide +kernel)) ?_
  refine x_top (M := M_X7_trim) (y := (Int32.ofInt 1)) (by decide +kernel) ?_
  refine x_iconst (M := M_X7_trim) dX7_trim_34 ?_
  refine x_isub (M := M_X7_trim) dX7_trim_35 ?_
  refine x_norm (M := M_X7_trim) (st' := [.int (Int32.ofInt 0), .int (Int32.ofInt 0), .ref 272]) rfl (vi_cons (by decide +kernel : ((Int32.ofInt 1) - (Int32.ofInt 1)) = (Int32.ofInt 0)) rfl) rfl rfl rfl ?_
  refine y_iast (M := M_X7_trim) (k := 0) dX7_trim_36 w6657 (vp_inD (by decide +kernel)) (by decide +kernel) (fun h6661 w6662 f6663 => ?_)
  have w6664 : ob h6661 272 = some (.inl (0, 16, .inl (fun _ => 0))) := by rw [w6662, up_up (k := 0), up_z (k := 0)]
  refine x_goto (M := M_X7_trim) (tgt := 0) dX7_trim_37 (by decide) ?_
  refine x_aload_n (M := M_X7_trim) dX7_trim_0 rfl ?_
  have o6665 := (f6663 252 _ (by decide) o6658)
  refine x_getf (M := M_X7_trim) (ci := 10) (C := RX7) (T := TX7) (N := 5) (ty := tyX7) cl10 dX7_trim_1 o6665 3 (by decide) t_550 (v := .ref 272) rfl ?_
  refine x_iload_n (M := M_X7_trim) dX7_trim_4 rfl ?_
  refine x_iald (M := M_X7_trim) dX7_trim_5 w6664 (vp_inD (by decide +kernel)) ?_
  refine x_top (M := M_X7_trim) (y := (Int32.ofInt 0)) (by decide +kernel) ?_
  refine x_if_le (M := M_X7_trim) (tgt := 40) dX7_trim_6 (by decide) (fun _ => ?_) (fun q => absurd q (by decide +kernel))
  refine x_aload_n (M := M_X7_trim) dX7_trim_40 rfl ?_
  refine x_getf (M := M_X7_trim) (ci := 10) (C := RX7) (T := TX7) (N := 5) (ty := tyX7) cl10 dX7_trim_41 o6665 3 (by decide) t_550 (v := .ref 272) rfl ?_
  refine x_iload_n (M := M_X7_trim) dX7_trim_44 rfl ?_
  refine x_iald (M := M_X7_trim) dX7_trim_45 w6664 (vp_inD (by decide +kernel)) ?_
  refine x_top (M := M_X7_trim) (y := (Int32.ofInt 0)) (by decide +kernel) ?_
  refine x_if_ne (M := M_X7_trim) (tgt := 56) dX7_trim_46 (by decide) (fun q => absurd q (by decide +kernel)) (fun _ => ?_)
  refine x_aload_n (M := M_X7_trim) dX7_trim_49 rfl ?_
  refine x_getf (M := M_X7_trim) (ci := 10) (C := RX7) (T := TX7) (N := 5) (ty := tyX7) cl10 dX7_trim_50 o6665 4 (by decide) t_551 (v := .ref 273) rfl ?_
  refine x_iload_n (M := M_X7_trim) dX7_trim_53 rfl ?_
  refine x_iconst (M := M_X7_trim) dX7_trim_54 ?_
  have o6667 := (f6663 273 _ (by decide) (f6656 273 _ (by decide) (f6649 273 _ (by decide) o6666)))
  refine y_iast (M := M_X7_trim) (k := 0) dX7_trim_55 o6667 (vp_inD (by decide +kernel)) (by decide +kernel) (fun h6668 w6669 f6670 => ?_)
  have w6671 : ob h6668 273 = some (.inl (0, 16, .inl (fun _ => 0))) := by rw [w6669, up_up (k := 0), up_z (k := 0)]
  have o6672 := (f6670 272 _ (by decide) w6664)
  exact x_vret (M := M_X7_trim) dX7_trim_56 rfl ⟨rfl, (fr_tr f6670 (by decide) (fr_tr f6663 (by decide) (fr_tr f6656 (by decide) (fr_tr f6649 (by decide) fr_rf)))), ⟨o6672, w6671, trivial⟩⟩ (Nat.le_of_ble_eq_true rfl) (Nat.le_of_ble_eq_true rfl)
set_option maxRecDepth 10000 in
theorem q6684 {l : Launch} {E : EE} (hl : l.stackTraces = false) {h : HP} (o6591 : ob h 252 = some (.inr (10, [.ref 253, .ref 254, .ref 255, .ref 272, .ref 273]))) (o6592 : ob h 255 = some (.inl (5, 16, .inr (.inr (.inr (.inr (fun i => if i < 16 then some (255 + 1 + i) else none))))))) (o6608 : ob h 256 = some (.inl (0, 280, .inl (fun _ => 0)))) (o6632 : ob h 272 = some (.inl (0, 16, .inl (fun _ => 0)))) (o6638 : ob h 273 = some (.inl (0, 16, .inl (fun _ => 0)))) : en_C l E M_X7_load 2 0 0 [.ref 252, .int (Int32.ofInt 0), .long (Int64.ofInt 0)] h (pF none [256, 272, 273] h (fun h' => ob h' 256 = some (.inl (0, 280, .inl (fun _ => 0))) ∧ ob h' 272 = some (.inl (0, 16, .inl (fun _ => 0))) ∧ ob h' 273 = some (.inl (0, 16, .inl (fun _ => 0))) ∧ True)) := by
  refine en_mk m_X7_load rfl hl (Nat.le_of_ble_eq_true rfl) ?_
  refine x_lload_n (M := M_X7_load) dX7_load_0 rfl ?_
  refine x_bipush (M := M_X7_load) dX7_load_1 ?_
  refine x_lushr (M := M_X7_load) dX7_load_3 ?_
  refine x_l2i (M := M_X7_load) dX7_load_4 ?_
  refine x_sipush (M := M_X7_load) dX7_load_5 ?_
  refine x_iand (M := M_X7_load) dX7_load_8 ?_
  refine x_top (M := M_X7_load) (y := (Int32.ofInt 0)) (by decide +kernel) ?_
  refine x_istore (M := M_X7_load) dX7_load_9 (Nat.le_of_ble_eq_true rfl) rfl ?_
  refine x_iload (M := M_X7_load) dX7_load_11 rfl ?_
  refine x_if_ne (M := M_X7_load) (tgt := 24) dX7_load_13 (by decide) (fun q => absurd q (by decide +kernel)) (fun _ => ?_)
  refine x_lload_n (M := M_X7_load) dX7_load_16 rfl ?_
  refine x_ldc2 (M := M_X7_load) dX7_load_17 t_2335 ?_
  refine x_land (M := M_X7_load) dX7_load_20 ?_
  refine x_goto (M := M_X7_load) (tgt := 35) dX7_load_21 (by decide) ?_
  refine x_topl (M := M_X7_load) (y := (Int64.ofInt 0)) (by decide +kernel) ?_
  refine x_lstore (M := M_X7_load) dX7_load_35 (Nat.le_of_ble_eq_true rfl) rfl ?_
  refine x_iload (M := M_X7_load) dX7_load_37 rfl ?_
  refine x_iconst (M := M_X7_load) dX7_load_39 ?_
  refine x_isub (M := M_X7_load) dX7_load_40 ?_
  refine x_iconst (M := M_X7_load) dX7_load_41 ?_
  refine x_mmax (M := M_X7_load) dX7_load_42 t_2336 t_1013 t_20 t_1014 (Nat.le_of_ble_eq_true rfl) (Nat.le_of_ble_eq_true rfl) (Nat.le_of_ble_eq_true rfl) (Nat.le_of_ble_eq_true rfl) ?_
  refine x_top (M := M_X7_load) (y := (Int32.ofInt 0)) (by decide +kernel) ?_
  refine x_istore (M := M_X7_load) dX7_load_45 (Nat.le_of_ble_eq_true rfl) rfl ?_
  refine x_iload (M := M_X7_load) dX7_load_47 rfl ?_
  refine x_iconst (M := M_X7_load) dX7_load_49 ?_
  refine x_ishr (M := M_X7_load) dX7_load_50 ?_
  refine x_top (M := M_X7_load) (y := (Int32.ofInt 0)) (by decide +kernel) ?_
  refine x_istore (M := M_X7_load) dX7_load_51 (Nat.le_of_ble_eq_true rfl) rfl ?_
  refine x_iload (M := M_X7_load) dX7_load_53 rfl ?_
  refine x_bipush (M := M_X7_load) dX7_load_55 ?_
  refine x_iand (M := M_X7_load) dX7_load_57 ?_
  refine x_top (M := M_X7_load) (y := (Int32.ofInt 0)) (by decide +kernel) ?_
  refine x_istore (M := M_X7_load) dX7_load_58 (Nat.le_of_ble_eq_true rfl) rfl ?_
  refine x_lvs (M := M_X7_load) (lv' := [some (.ref 252), some (.int (Int32.ofInt 0)), some (.long (Int64.ofInt 0)), none, some (.int (Int32.ofInt 0)), some (.long (Int64.ofInt 0)), none, some (.int (Int32.ofInt 0)), some (.int (Int32.ofInt 0)), some (.int (Int32.ofInt 0)), none, none, none, none]) rfl ?_
  refine x_aload_n (M := M_X7_load) dX7_load_60 rfl ?_
  refine x_getf (M := M_X7_load) (ci := 10) (C := RX7) (T := TX7) (N := 5) (ty := tyX7) cl10 dX7_load_61 o6591 2 (by decide) t_549 (v := .ref 255) rfl ?_
  refine x_iload_n (M := M_X7_load) dX7_load_64 rfl ?_
  refine x_gald (M := M_X7_load) (b := 256) dX7_load_65 o6592 (vp_inD (by decide +kernel)) (by decide +kernel) ?_
  refine x_iconst (M := M_X7_load) dX7_load_66 ?_
  refine x_iload (M := M_X7_load) dX7_load_67 rfl ?_
  refine x_iconst (M := M_X7_load) dX7_load_69 ?_
  refine x_iadd (M := M_X7_load) dX7_load_70 ?_
  refine x_iconst (M := M_X7_load) dX7_load_71 ?_
  refine x_norm (M := M_X7_load) (st' := [.int (Int32.ofInt 0), .int (Int32.ofInt 3), .int (Int32.ofInt 0), .ref 256]) rfl (v_cons (vi_cons (by decide +kernel : ((Int32.ofInt 0) + (Int32.ofInt 3)) = (Int32.ofInt 3)) rfl)) rfl rfl rfl ?_
  refine y_callSR (M := M_X7_load) (M' := M_J7_fill_fda19) rfl rfl dX7_load_72 m_J7_fill_fda19 t_2337 t_1522 (q6607 hl o6608) rfl rfl (Nat.le_of_ble_eq_true rfl) (Nat.le_of_ble_eq_true rfl) (Nat.le_of_ble_eq_true rfl) (Nat.le_of_ble_eq_true rfl) (fun h6609 f6610 w6611 => ?_)
  obtain ⟨o6612, -⟩ := w6611
  refine x_lload (M := M_X7_load) dX7_load_75 rfl ?_
  refine x_ldc2 (M := M_X7_load) dX7_load_77 t_2338 ?_
  refine x_land (M := M_X7_load) dX7_load_80 ?_
  refine x_iload (M := M_X7_load) dX7_load_81 rfl ?_
  refine x_lshl (M := M_X7_load) dX7_load_83 ?_
  refine x_topl (M := M_X7_load) (y := (Int64.ofInt 0)) (by decide +kernel) ?_
  refine x_lstore (M := M_X7_load) dX7_load_84 (Nat.le_of_ble_eq_true rfl) rfl ?_
  refine x_lload (M := M_X7_load) dX7_load_86 rfl ?_
  refine x_bipush (M := M_X7_load) dX7_load_88 ?_
  refine x_lushr (M := M_X7_load) dX7_load_90 ?_
  refine x_iload (M := M_X7_load) dX7_load_91 rfl ?_
  refine x_lshl (M := M_X7_load) dX7_load_93 ?_
  refine x_lload (M := M_X7_load) dX7_load_94 rfl ?_
  refine x_bipush (M := M_X7_load) dX7_load_96 ?_
  refine x_lushr (M := M_X7_load) dX7_load_98 ?_
  refine x_ladd (M := M_X7_load) dX7_load_99 ?_
  refine x_topl (M := M_X7_load) (y := (Int64.ofInt 0)) (by decide +kernel) ?_
  refine x_lstore (M := M_X7_load) dX7_load_100 (Nat.le_of_ble_eq_true rfl) rfl ?_
  refine x_aload_n (M := M_X7_load) dX7_load_102 rfl ?_
  have o6613 := (f6610 252 _ (by decide) o6591)
  refine x_getf (M := M_X7_load) (ci := 10) (C := RX7) (T := TX7) (N := 5) (ty := tyX7) cl10 dX7_load_103 o6613 2 (by decide) t_549 (v := .ref 255) rfl ?_
  refine x_iload_n (M := M_X7_load) dX7_load_106 rfl ?_
  have o6614 := (f6610 255 _ (by decide) o6592)
  refine x_gald (M := M_X7_load) (b := 256) dX7_load_107 o6614 (vp_inD (by decide +kernel)) (by decide +kernel) ?_
  refine x_iload (M := M_X7_load) dX7_load_108 rfl ?_
  refine x_lload (M := M_X7_load) dX7_load_110 rfl ?_
  refine x_l2i (M := M_X7_load) dX7_load_112 ?_
  refine x_norm (M := M_X7_load) (st' := [.int (Int32.ofInt 0), .int (Int32.ofInt 0), .ref 256]) rfl (vi_cons (by decide +kernel : ((Int64.ofInt 0).toInt32) = (Int32.ofInt 0)) rfl) rfl rfl rfl ?_
  refine y_iast (M := M_X7_load) (k := 0) dX7_load_113 o6612 (vp_inD (by decide +kernel)) (by decide +kernel) (fun h6615 w6616 f6617 => ?_)
  have w6618 : ob h6615 256 = some (.inl (0, 280, .inl (fun _ => 0))) := by rw [w6616, up_z (k := 0)]
  refine x_aload_n (M := M_X7_load) dX7_load_114 rfl ?_
  have o6619 := (f6617 252 _ (by decide) o6613)
  refine x_getf (M := M_X7_load) (ci := 10) (C := RX7) (T := TX7) (N := 5) (ty := tyX7) cl10 dX7_load_115 o6619 2 (by decide) t_549 (v := .ref 255) rfl ?_
  refine x_iload_n (M := M_X7_load) dX7_load_118 rfl ?_
  have o6620 := (f6617 255 _ (by decide) o6614)
  refine x_gald (M := M_X7_load) (b := 256) dX7_load_119 o6620 (vp_inD (by decide +kernel)) (by decide +kernel) ?_
  refine x_iload (M := M_X7_load) dX7_load_120 rfl ?_
  refine x_iconst (M := M_X7_load) dX7_load_122 ?_
  refine x_iadd (M := M_X7_load) dX7_load_123 ?_
  refine x_lload (M := M_X7_load) dX7_load_124 rfl ?_
  refine x_l2i (M := M_X7_load) dX7_load_126 ?_
  refine x_norm (M := M_X7_load) (st' := [.int (Int32.ofInt 0), .int (Int32.ofInt 1), .ref 256]) rfl (vi_cons (by decide +kernel : ((Int64.ofInt 0).toInt32) = (Int32.ofInt 0)) (vi_cons (by decide +kernel : ((Int32.ofInt 0) + (Int32.ofInt 1)) = (Int32.ofInt 1)) rfl)) rfl rfl rfl ?_
  refine y_iast (M := M_X7_load) (k := 1) dX7_load_127 w6618 (vp_inD (by decide +kernel)) (by decide +kernel) (fun h6621 w6622 f6623 => ?_)
  have w6624 : ob h6621 256 = some (.inl (0, 280, .inl (fun _ => 0))) := by rw [w6622, up_z (k := 1)]
  refine x_aload_n (M := M_X7_load) dX7_load_128 rfl ?_
  have o6625 := (f6623 252 _ (by decide) o6619)
  refine x_getf (M := M_X7_load) (ci := 10) (C := RX7) (T := TX7) (N := 5) (ty := tyX7) cl10 dX7_load_129 o6625 2 (by decide) t_549 (v := .ref 255) rfl ?_
  refine x_iload_n (M := M_X7_load) dX7_load_132 rfl ?_
  have o6626 := (f6623 255 _ (by decide) o6620)
  refine x_gald (M := M_X7_load) (b := 256) dX7_load_133 o6626 (vp_inD (by decide +kernel)) (by decide +kernel) ?_
  refine x_iload (M := M_X7_load) dX7_load_134 rfl ?_
  refine x_iconst (M := M_X7_load) dX7_load_136 ?_
  refine x_iadd (M := M_X7_load) dX7_load_137 ?_
  refine x_lload (M := M_X7_load) dX7_load_138 rfl ?_
  refine x_bipush (M := M_X7_load) dX7_load_140 ?_
  refine x_lushr (M := M_X7_load) dX7_load_142 ?_
  refine x_l2i (M := M_X7_load) dX7_load_143 ?_
  refine x_norm (M := M_X7_load) (st' := [.int (Int32.ofInt 0), .int (Int32.ofInt 2), .ref 256]) rfl (vi_cons (by decide +kernel : ((((Int64.ofInt 0).toUInt64 >>> (((Int8.ofInt 32).toInt32).toInt64.toUInt64 &&& Int64.toUInt64 63)).toInt64).toInt32) = (Int32.ofInt 0)) (vi_cons (by decide +kernel : ((Int32.ofInt 0) + (Int32.ofInt 2)) = (Int32.ofInt 2)) rfl)) rfl rfl rfl ?_
  refine y_iast (M := M_X7_load) (k := 2) dX7_load_144 w6624 (vp_inD (by decide +kernel)) (by decide +kernel) (fun h6627 w6628 f6629 => ?_)
  have w6630 : ob h6627 256 = some (.inl (0, 280, .inl (fun _ => 0))) := by rw [w6628, up_z (k := 2)]
  refine x_aload_n (M := M_X7_load) dX7_load_145 rfl ?_
  have o6631 := (f6629 252 _ (by decide) o6625)
  refine x_getf (M := M_X7_load) (ci := 10) (C := RX7) (T := TX7) (N := 5) (ty := tyX7) cl10 dX7_load_146 o6631 3 (by decide) t_550 (v := .ref 272) rfl ?_
  refine x_iload_n (M := M_X7_load) dX7_load_149 rfl ?_
  refine x_iload (M := M_X7_load) dX7_load_150 rfl ?_
  refine x_iconst (M := M_X7_load) dX7_load_152 ?_
  refine x_iadd (M := M_X7_load) dX7_load_153 ?_
  refine x_norm (M := M_X7_load) (st' := [.int (Int32.ofInt 3), .int (Int32.ofInt 0), .ref 272]) rfl (vi_cons (by decide +kernel : ((Int32.ofInt 0) + (Int32.ofInt 3)) = (Int32.ofInt 3)) rfl) rfl rfl rfl ?_
  have o6633 := (f6629 272 _ (by decide) (f6623 272 _ (by decide) (f6617 272 _ (by decide) (f6610 272 _ (by decide) o6632))))
  refine y_iast (M := M_X7_load) (k := 0) dX7_load_154 o6633 (vp_inD (by decide +kernel)) (by decide +kernel) (fun h6634 w6635 f6636 => ?_)
  refine x_aload_n (M := M_X7_load) dX7_load_155 rfl ?_
  have o6637 := (f6636 252 _ (by decide) o6631)
  refine x_getf (M := M_X7_load) (ci := 10) (C := RX7) (T := TX7) (N := 5) (ty := tyX7) cl10 dX7_load_156 o6637 4 (by decide) t_551 (v := .ref 273) rfl ?_
  refine x_iload_n (M := M_X7_load) dX7_load_159 rfl ?_
  refine x_lload_n (M := M_X7_load) dX7_load_160 rfl ?_
  refine x_lconst (M := M_X7_load) dX7_load_161 ?_
  refine x_lcmp (M := M_X7_load) dX7_load_162 ?_
  refine x_if_ge (M := M_X7_load) (tgt := 170) dX7_load_163 (by decide) (fun _ => ?_) (fun q => absurd q (by decide +kernel))
  refine x_iconst (M := M_X7_load) dX7_load_170 ?_
  have o6639 := (f6636 273 _ (by decide) (f6629 273 _ (by decide) (f6623 273 _ (by decide) (f6617 273 _ (by decide) (f6610 273 _ (by decide) o6638)))))
  refine y_iast (M := M_X7_load) (k := 0) dX7_load_171 o6639 (vp_inD (by decide +kernel)) (by decide +kernel) (fun h6640 w6641 f6642 => ?_)
  refine x_aload_n (M := M_X7_load) dX7_load_172 rfl ?_
  refine x_iload_n (M := M_X7_load) dX7_load_173 rfl ?_
  have o6674 := (f6642 252 _ (by decide) o6637)
  have o6675 := (f6642 272 _ (by decide) w6635)
  have o6676 := (f6642 255 _ (by decide) (f6636 255 _ (by decide) (f6629 255 _ (by decide) o6626)))
  have o6677 := (f6642 256 _ (by decide) (f6636 256 _ (by decide) w6630))
  refine y_callVR (M := M_X7_load) (M' := M_X7_trim) rfl rfl dX7_load_174 m_X7_trim t_2339 t_2341 s_150 (q6673 hl o6674 o6675 o6676 o6677 w6641) rfl rfl o6674 rfl (Nat.le_of_ble_eq_true rfl) (Nat.le_of_ble_eq_true rfl) (Nat.le_of_ble_eq_true rfl) (Nat.le_of_ble_eq_true rfl) (fun h6678 f6679 w6680 => ?_)
  obtain ⟨o6681, o6682, -⟩ := w6680
  have o6683 := (f6679 256 _ (by decide) o6677)
  exact x_vret (M := M_X7_load) dX7_load_177 rfl ⟨rfl, (fr_tr f6679 (by decide) (fr_tr f6642 (by decide) (fr_tr f6636 (by decide) (fr_tr f6629 (by decide) (fr_tr f6623 (by decide) (fr_tr f6617 (by decide) (fr_tr f6610 (by decide) fr_rf))))))), ⟨o6683, o6681, o6682, trivial⟩⟩ (Nat.le_of_ble_eq_true rfl) (Nat.le_of_ble_eq_true rfl)
set_option maxRecDepth 10000 in
theorem q6711 {l : Launch} {E : EE} (hl : l.stackTraces = false) {h : HP} (o6698 : ob h 257 = some (.inl (0, 280, .inl (fun _ => 0)))) : en_C l E M_J7_fill_fda19 1 0 0 [.ref 257, .int (Int32.ofInt 0), .int (Int32.ofInt 3), .int (Int32.ofInt 0)] h (pF none [257] h (fun h' => ob h' 257 = some (.inl (0, 280, .inl (fun _ => 0))) ∧ True)) := by
  refine en_mk m_J7_fill_fda19 rfl hl (Nat.le_of_ble_eq_true rfl) ?_
  refine x_aload_n (M := M_J7_fill_fda19) dJ7_fill_fda19_0 rfl ?_
  refine x_alen (M := M_J7_fill_fda19) dJ7_fill_fda19_1 o6698 (by decide) ?_
  refine x_iload_n (M := M_J7_fill_fda19) dJ7_fill_fda19_2 rfl ?_
  refine x_iload_n (M := M_J7_fill_fda19) dJ7_fill_fda19_3 rfl ?_
  refine x_norm (M := M_J7_fill_fda19) (st' := [.int (Int32.ofInt 3), .int (Int32.ofInt 0), .int (Int32.ofInt 280)]) rfl (v_cons (v_cons (vi_cons (by decide +kernel : (Int32.ofNat 280) = (Int32.ofInt 280)) rfl))) rfl rfl rfl ?_
  refine x_callSR (M := M_J7_fill_fda19) (M' := M_J7_rangeCheck_23922) rfl rfl dJ7_fill_fda19_4 m_J7_rangeCheck_23922 t_1524 t_1525 (q6594 hl) rfl rfl (Nat.le_of_ble_eq_true rfl) (Nat.le_of_ble_eq_true rfl) (Nat.le_of_ble_eq_true rfl) (Nat.le_of_ble_eq_true rfl) ?_
  refine x_iload_n (M := M_J7_fill_fda19) dJ7_fill_fda19_7 rfl ?_
  refine x_istore (M := M_J7_fill_fda19) dJ7_fill_fda19_8 (Nat.le_of_ble_eq_true rfl) rfl ?_
  refine x_iload (M := M_J7_fill_fda19) dJ7_fill_fda19_10 rfl ?_
  refine x_iload_n (M := M_J7_fill_fda19) dJ7_fill_fda19_12 rfl ?_
  refine x_icmp_ge (M := M_J7_fill_fda19) (tgt := 27) dJ7_fill_fda19_13 (by decide) (fun q => absurd q (by decide +kernel)) (fun _ => ?_)
  refine x_aload_n (M := M_J7_fill_fda19) dJ7_fill_fda19_16 rfl ?_
  refine x_iload (M := M_J7_fill_fda19) dJ7_fill_fda19_17 rfl ?_
  refine x_iload_n (M := M_J7_fill_fda19) dJ7_fill_fda19_19 rfl ?_
  refine y_iast (M := M_J7_fill_fda19) (k := 0) dJ7_fill_fda19_20 o6698 (vp_inD (by decide +kernel)) (by decide +kernel) (fun h6699 w6700 f6701 => ?_)
  have w6702 : ob h6699 257 = some (.inl (0, 280, .inl (fun _ => 0))) := by rw [w6700, up_z (k := 0)]
  refine x_iinc (M := M_J7_fill_fda19) dJ7_fill_fda19_21 rfl (Nat.le_of_ble_eq_true rfl) rfl ?_
  refine x_lvs (M := M_J7_fill_fda19) (lv' := [some (.ref 257), some (.int (Int32.ofInt 0)), some (.int (Int32.ofInt 3)), some (.int (Int32.ofInt 0)), some (.int (Int32.ofInt 1))]) (by rw [(by decide +kernel : (Int32.ofInt 0) + Int32.ofInt 1 = (Int32.ofInt 1))] <;> rfl) ?_
  refine x_goto (M := M_J7_fill_fda19) (tgt := 10) dJ7_fill_fda19_24 (by decide) ?_
  refine x_iload (M := M_J7_fill_fda19) dJ7_fill_fda19_10 rfl ?_
  refine x_iload_n (M := M_J7_fill_fda19) dJ7_fill_fda19_12 rfl ?_
  refine x_icmp_ge (M := M_J7_fill_fda19) (tgt := 27) dJ7_fill_fda19_13 (by decide) (fun q => absurd q (by decide +kernel)) (fun _ => ?_)
  refine x_aload_n (M := M_J7_fill_fda19) dJ7_fill_fda19_16 rfl ?_
  refine x_iload (M := M_J7_fill_fda19) dJ7_fill_fda19_17 rfl ?_
  refine x_iload_n (M := M_J7_fill_fda19) dJ7_fill_fda19_19 rfl ?_
  refine y_iast (M := M_J7_fill_fda19) (k := 1) dJ7_fill_fda19_20 w6702 (vp_inD (by decide +kernel)) (by decide +kernel) (fun h6703 w6704 f6705 => ?_)
  have w6706 : ob h6703 257 = some (.inl (0, 280, .inl (fun _ => 0))) := by rw [w6704, up_z (k := 1)]
  refine x_iinc (M := M_J7_fill_fda19) dJ7_fill_fda19_21 rfl (Nat.le_of_ble_eq_true rfl) rfl ?_
  refine x_lvs (M := M_J7_fill_fda19) (lv' := [some (.ref 257), some (.int (Int32.ofInt 0)), some (.int (Int32.ofInt 3)), some (.int (Int32.ofInt 0)), some (.int (Int32.ofInt 2))]) (by rw [(by decide +kernel : (Int32.ofInt 1) + Int32.ofInt 1 = (Int32.ofInt 2))] <;> rfl) ?_
  refine x_goto (M := M_J7_fill_fda19) (tgt := 10) dJ7_fill_fda19_24 (by decide) ?_
  refine x_iload (M := M_J7_fill_fda19) dJ7_fill_fda19_10 rfl ?_
  refine x_iload_n (M := M_J7_fill_fda19) dJ7_fill_fda19_12 rfl ?_
  refine x_icmp_ge (M := M_J7_fill_fda19) (tgt := 27) dJ7_fill_fda19_13 (by decide) (fun q => absurd q (by decide +kernel)) (fun _ => ?_)
  refine x_aload_n (M := M_J7_fill_fda19) dJ7_fill_fda19_16 rfl ?_
  refine x_iload (M := M_J7_fill_fda19) dJ7_fill_fda19_17 rfl ?_
  refine x_iload_n (M := M_J7_fill_fda19) dJ7_fill_fda19_19 rfl ?_
  refine y_iast (M := M_J7_fill_fda19) (k := 2) dJ7_fill_fda19_20 w6706 (vp_inD (by decide +kernel)) (by decide +kernel) (fun h6707 w6708 f6709 => ?_)
  have w6710 : ob h6707 257 = some (.inl (0, 280, .inl (fun _ => 0))) := by rw [w6708, up_z (k := 2)]
  refine x_iinc (M := M_J7_fill_fda19) dJ7_fill_fda19_21 rfl (Nat.le_of_ble_eq_true rfl) rfl ?_
  refine x_lvs (M := M_J7_fill_fda19) (lv' := [some (.ref 257), some (.int (Int32.ofInt 0)), some (.int (Int32.ofInt 3)), some (.int (Int32.ofInt 0)), some (.int (Int32.ofInt 3))]) (by rw [(by decide +kernel : (Int32.ofInt 2) + Int32.ofInt 1 = (Int32.ofInt 3))] <;> rfl) ?_
  refine x_goto (M := M_J7_fill_fda19) (tgt := 10) dJ7_fill_fda19_24 (by decide) ?_
  refine x_iload (M := M_J7_fill_fda19) dJ7_fill_fda19_10 rfl ?_
  refine x_iload_n (M := M_J7_fill_fda19) dJ7_fill_fda19_12 rfl ?_
  refine x_icmp_ge (M := M_J7_fill_fda19) (tgt := 27) dJ7_fill_fda19_13 (by decide) (fun _ => ?_) (fun q => absurd q (by decide +kernel))
  exact x_vret (M := M_J7_fill_fda19) dJ7_fill_fda19_27 rfl ⟨rfl, (fr_tr f6709 (by decide) (fr_tr f6705 (by decide) (fr_tr f6701 (by decide) fr_rf))), ⟨w6710, trivial⟩⟩ (Nat.le_of_ble_eq_true rfl) (Nat.le_of_ble_eq_true rfl)
set_option maxRecDepth 10000 in
theorem q6777 {l : Launch} {E : EE} (hl : l.stackTraces = false) {h : HP} (o6747 : ob h 252 = some (.inr (10, [.ref 253, .ref 254, .ref 255, .ref 272, .ref 273]))) (o6748 : ob h 272 = some (.inl (0, 16, .inl (upd (fun _ => 0) 1 (Int32.ofInt 3))))) (o6749 : ob h 255 = some (.inl (5, 16, .inr (.inr (.inr (.inr (fun i => if i < 16 then some (255 + 1 + i) else none))))))) (o6750 : ob h 257 = some (.inl (0, 280, .inl (fun _ => 0)))) (o6770 : ob h 273 = some (.inl (0, 16, .inl (upd (fun _ => 0) 1 (Int32.ofInt 1))))) : en_C l E M_X7_trim 0 0 0 [.ref 252, .int (Int32.ofInt 1)] h (pF none [272, 273] h (fun h' => ob h' 272 = some (.inl (0, 16, .inl (fun _ => 0))) ∧ ob h' 273 = some (.inl (0, 16, .inl (fun _ => 0))) ∧ True)) := by
  refine en_mk m_X7_trim rfl hl (Nat.le_of_ble_eq_true rfl) ?_
  refine x_aload_n (M := M_X7_trim) dX7_trim_0 rfl ?_
  refine x_getf (M := M_X7_trim) (ci := 10) (C := RX7) (T := TX7) (N := 5) (ty := tyX7) cl10 dX7_trim_1 o6747 3 (by decide) t_550 (v := .ref 272) rfl ?_
  refine x_iload_n (M := M_X7_trim) dX7_trim_4 rfl ?_
  refine x_iald (M := M_X7_trim) dX7_trim_5 o6748 (vp_inD (by decide +kernel)) ?_
  refine x_top (M := M_X7_trim) (y := (Int32.ofInt 3)) (by decide +kernel) ?_
  refine x_if_le (M := M_X7_trim) (tgt := 40) dX7_trim_6 (by decide) (fun q => absurd q (by decide +kernel)) (fun _ => ?_)
  refine x_aload_n (M := M_X7_trim) dX7_trim_9 rfl ?_
  refine x_getf (M := M_X7_trim) (ci := 10) (C := RX7) (T := TX7) (N := 5) (ty := tyX7) cl10 dX7_trim_10 o6747 2 (by decide) t_549 (v := .ref 255) rfl ?_
  refine x_iload_n (M := M_X7_trim) dX7_trim_13 rfl ?_
  refine x_gald (M := M_X7_trim) (b := 257) dX7_trim_14 o6749 (vp_inD (by decide +kernel)) (by decide +kernel) ?_
  refine x_aload_n (M := M_X7_trim) dX7_trim_15 rfl ?_
  refine x_getf (M := M_X7_trim) (ci := 10) (C := RX7) (T := TX7) (N := 5) (ty := tyX7) cl10 dX7_trim_16 o6747 3 (by decide) t_550 (v := .ref 272) rfl ?_
  refine x_iload_n (M := M_X7_trim) dX7_trim_19 rfl ?_
  refine x_iald (M := M_X7_trim) dX7_trim_20 o6748 (vp_inD (by decide +kernel)) ?_
  refine x_top (M := M_X7_trim) (y := (Int32.ofInt 3)) (by decide +kernel) ?_
  refine x_iconst (M := M_X7_trim) dX7_trim_21 ?_
  refine x_isub (M := M_X7_trim) dX7_trim_22 ?_
  refine x_iald (M := M_X7_trim) dX7_trim_23 o6750 (vp_inD (by decide +kernel)) ?_
  refine x_top (M := M_X7_trim) (y := (Int32.ofInt 0)) (by decide +kernel) ?_
  refine x_if_ne (M := M_X7_trim) (tgt := 40) dX7_trim_24 (by decide) (fun q => absurd q (by decide +kernel)) (fun _ => ?_)
  refine x_aload_n (M := M_X7_trim) dX7_trim_27 rfl ?_
  refine x_getf (M := M_X7_trim) (ci := 10) (C := RX7) (T := TX7) (N := 5) (ty := tyX7) cl10 dX7_trim_28 o6747 3 (by decide) t_550 (v := .ref 272) rfl ?_
  refine x_iload_n (M := M_X7_trim) dX7_trim_31 rfl ?_
  refine x_dup2 (M := M_X7_trim) dX7_trim_32 rfl rfl ?_
  refine x_iald (M := M_X7_trim) dX7_trim_33 o6748 (vp_inD (by decide +kernel)) ?_
  refine x_top (M := M_X7_trim) (y := (Int32.ofInt 3)) (by decide +kernel) ?_
  refine x_iconst (M := M_X7_trim) dX7_trim_34 ?_
  refine x_isub (M := M_X7_trim) dX7_trim_35 ?_
  refine x_norm (M := M_X7_trim) (st' := [.int (Int32.ofInt 2), .int (Int32.ofInt 1), .ref 272]) rfl (vi_cons (by decide +kernel : ((Int32.ofInt 3) - (Int32.ofInt 1)) = (Int32.ofInt 2)) rfl) rfl rfl rfl ?_
  refine y_iast (M := M_X7_trim) (k := 1) dX7_trim_36 o6748 (vp_inD (by decide +kernel)) (by decide +kernel) (fun h6751 w6752 f6753 => ?_)
  have w6754 : ob h6751 272 = some (.inl (0, 16, .inl (upd (fun _ => 0) 1 (Int32.ofInt 2)))) := by rw [w6752, up_up (k := 1)]
  refine x_goto (M := M_X7_trim) (tgt := 0) dX7_trim_37 (by decide) ?_
  refine x_aload_n (M := M_X7_trim) dX7_trim_0 rfl ?_
  have o6755 := (f6753 252 _ (by decide) o6747)
  refine x_getf (M := M_X7_trim) (ci := 10) (C := RX7) (T := TX7) (N := 5) (ty := tyX7) cl10 dX7_trim_1 o6755 3 (by decide) t_550 (v := .ref 272) rfl ?_
  refine x_iload_n (M := M_X7_trim) dX7_trim_4 rfl ?_
  refine x_iald (M := M_X7_trim) dX7_trim_5 w6754 (vp_inD (by decide +kernel)) ?_
  refine x_top (M := M_X7_trim) (y := (Int32.ofInt 2)) (by decide +kernel) ?_
  refine x_if_le (M := M_X7_trim) (tgt := 40) dX7_trim_6 (by decide) (fun q => absurd q (by decide +kernel)) (fun _ => ?_)
  refine x_aload_n (M := M_X7_trim) dX7_trim_9 rfl ?_
  refine x_getf (M := M_X7_trim) (ci := 10) (C := RX7) (T := TX7) (N := 5) (ty := tyX7) cl10 dX7_trim_10 o6755 2 (by decide) t_549 (v := .ref 255) rfl ?_
  refine x_iload_n (M := M_X7_trim) dX7_trim_13 rfl ?_
  have o6756 := (f6753 255 _ (by decide) o6749)
  refine x_gald (M := M_X7_trim) (b := 257) dX7_trim_14 o6756 (vp_inD (by decide +kernel)) (by decide +kernel) ?_
  refine x_aload_n (M := M_X7_trim) dX7_trim_15 rfl ?_
  refine x_getf (M := M_X7_trim) (ci := 10) (C := RX7) (T := TX7) (N := 5) (ty := tyX7) cl10 dX7_trim_16 o6755 3 (by decide) t_550 (v := .ref 272) rfl ?_
  refine x_iload_n (M := M_X7_trim) dX7_trim_19 rfl ?_
  refine x_iald (M := M_X7_trim) dX7_trim_20 w6754 (vp_inD (by decide +kernel)) ?_
  refine x_top (M := M_X7_trim) (y := (Int32.ofInt 2)) (by decide +kernel) ?_
  refine x_iconst (M := M_X7_trim) dX7_trim_21 ?_
  refine x_isub (M := M_X7_trim) dX7_trim_22 ?_
  have o6757 := (f6753 257 _ (by decide) o6750)
  refine x_iald (M := M_X7_trim) dX7_trim_23 o6757 (vp_inD (by decide +kernel)) ?_
  refine x_top (M := M_X7_trim) (y := (Int32.ofInt 0)) (by decide +kernel) ?_
  refine x_if_ne (M := M_X7_trim) (tgt := 40) dX7_trim_24 (by decide) (fun q => absurd q (by decide +kernel)) (fun _ => ?_)
  refine x_aload_n (M := M_X7_trim) dX7_trim_27 rfl ?_
  refine x_getf (M := M_X7_trim) (ci := 10) (C := RX7) (T := TX7) (N := 5) (ty := tyX7) cl10 dX7_trim_28 o6755 3 (by decide) t_550 (v := .ref 272) rfl ?_
  refine x_iload_n (M := M_X7_trim) dX7_trim_31 rfl ?_
  refine x_dup2 (M := M_X7_trim) dX7_trim_32 rfl rfl ?_
  refine x_iald (M := M_X7_trim) dX7_trim_33 w6754 (vp_inD (by decide +kernel)) ?_
  refine x_top (M := M_X7_trim) (y := (Int32.ofInt 2)) (by decide +kernel) ?_
  refine x_iconst (M := M_X7_trim) dX7_trim_34 ?_
  refine x_isub (M := M_X7_trim) dX7_trim_35 ?_
  refine x_norm (M := M_X7_trim) (st' := [.int (Int32.ofInt 1), .int (Int32.ofInt 1), .ref 272]) rfl (vi_cons (by decide +kernel : ((Int32.ofInt 2) - (Int32.ofInt 1)) = (Int32.ofInt 1)) rfl) rfl rfl rfl ?_
  refine y_iast (M := M_X7_trim) (k := 1) dX7_trim_36 w6754 (vp_inD (by decide +kernel)) (by decide +kernel) (fun h6758 w6759 f6760 => ?_)
  have w6761 : ob h6758 272 = some (.inl (0, 16, .inl (upd (fun _ => 0) 1 (Int32.ofInt 1)))) := by rw [w6759, up_up (k := 1)]
  refine x_goto (M := M_X7_trim) (tgt := 0) dX7_trim_37 (by decide) ?_
  refine x_aload_n (M := M_X7_trim) dX7_trim_0 rfl ?_
  have o6762 := (f6760 252 _ (by decide) o6755)
  refine x_getf (M := M_X7_trim) (ci := 10) (C := RX7) (T := TX7) (N := 5) (ty := tyX7) cl10 dX7_trim_1 o6762 3 (by decide) t_550 (v := .ref 272) rfl ?_
  refine x_iload_n (M := M_X7_trim) dX7_trim_4 rfl ?_
  refine x_iald (M := M_X7_trim) dX7_trim_5 w6761 (vp_inD (by decide +kernel)) ?_
  refine x_top (M := M_X7_trim) (y := (Int32.ofInt 1)) (by decide +kernel) ?_
  refine x_if_le (M := M_X7_trim) (tgt := 40) dX7_trim_6 (by decide) (fun q => absurd q (by decide +kernel)) (fun _ => ?_)
  refine x_aload_n (M := M_X7_trim) dX7_trim_9 rfl ?_
  refine x_getf (M := M_X7_trim) (ci := 10) (C := RX7) (T := TX7) (N := 5) (ty := tyX7) cl10 dX7_trim_10 o6762 2 (by decide) t_549 (v := .ref 255) rfl ?_
  refine x_iload_n (M := M_X7_trim) dX7_trim_13 rfl ?_
  have o6763 := (f6760 255 _ (by decide) o6756)
  refine x_gald (M := M_X7_trim) (b := 257) dX7_trim_14 o6763 (vp_inD (by decide +kernel)) (by decide +kernel) ?_
  refine x_aload_n (M := M_X7_trim) dX7_trim_15 rfl ?_
  refine x_getf (M := M_X7_trim) (ci := 10) (C := RX7) (T := TX7) (N := 5) (ty := tyX7) cl10 dX7_trim_16 o6762 3 (by decide) t_550 (v := .ref 272) rfl ?_
  refine x_iload_n (M := M_X7_trim) dX7_trim_19 rfl ?_
  refine x_iald (M := M_X7_trim) dX7_trim_20 w6761 (vp_inD (by decide +kernel)) ?_
  refine x_top (M := M_X7_trim) (y := (Int32.ofInt 1)) (by decide +kernel) ?_
  refine x_iconst (M := M_X7_trim) dX7_trim_21 ?_
  refine x_isub (M := M_X7_trim) dX7_trim_22 ?_
  have o6764 := (f6760 257 _ (by decide) o6757)
  refine x_iald (M := M_X7_trim) dX7_trim_23 o6764 (vp_inD (by decide +kernel)) ?_
  refine x_top (M := M_X7_trim) (y := (Int32.ofInt 0)) (by decide +kernel) ?_
  refine x_if_ne (M := M_X7_trim) (tgt := 40) dX7_trim_24 (by decide) (fun q => absurd q (by decide +kernel)) (fun _ => ?_)
  refine x_aload_n (M := M_X7_trim) dX7_trim_27 rfl ?_
  refine x_getf (M := M_X7_trim) (ci := 10) (C := RX7) (T := TX7) (N := 5) (ty := tyX7) cl10 dX7_trim_28 o6762 3 (by decide) t_550 (v := .ref 272) rfl ?_
  refine x_iload_n (M := M_X7_trim) dX7_trim_31 rfl ?_
  refine x_dup2 (M := M_X7_trim) dX7_trim_32 rfl rfl ?_
  refine x_iald (M := M_X7_trim) dX7_trim_33 w6761 (vp_inD (by decide +kernel)) ?_
  refine x_top (M := M_X7_trim) (y := (Int32.ofInt 1)) (by decide +kernel) ?_
  refine x_iconst (M := M_X7_trim) dX7_trim_34 ?_
  refine x_isub (M := M_X7_trim) dX7_trim_35 ?_
  refine x_norm (M := M_X7_trim) (st' := [.int (Int32.ofInt 0), .int (Int32.ofInt 1), .ref 272]) rfl (vi_cons (by decide +kernel : ((Int32.ofInt 1) - (Int32.ofInt 1)) = (Int32.ofInt 0)) rfl) rfl rfl rfl ?_
  refine y_iast (M := M_X7_trim) (k := 1) dX7_trim_36 w6761 (vp_inD (by decide +kernel)) (by decide +kernel) (fun h6765 w6766 f6767 => ?_)
  have w6768 : ob h6765 272 = some (.inl (0, 16, .inl (fun _ => 0))) := by rw [w6766, up_up (k := 1), up_z (k := 1)]
  refine x_goto (M := M_X7_trim) (tgt := 0) dX7_trim_37 (by decide) ?_
  refine x_aload_n (M := M_X7_trim) dX7_trim_0 rfl ?_
  have o6769 := (f6767 252 _ (by decide) o6762)
  refine x_getf (M := M_X7_trim) (ci := 10) (C := RX7) (T := TX7) (N := 5) (ty := tyX7) cl10 dX7_trim_1 o6769 3 (by decide) t_550 (v := .ref 272) rfl ?_
  refine x_iload_n (M := M_X7_trim) dX7_trim_4 rfl ?_
  refine x_iald (M := M_X7_trim) dX7_trim_5 w6768 (vp_inD (by decide +kernel)) ?_
  refine x_top (M := M_X7_trim) (y := (Int32.ofInt 0)) (by decide +kernel) ?_
  refine x_if_le (M := M_X7_trim) (tgt := 40) dX7_trim_6 (by decide) (fun _ => ?_) (fun q => absurd q (by decide +kernel))
  refine x_aload_n (M := M_X7_trim) dX7_trim_40 rfl ?_
  refine x_getf (M := M_X7_trim) (ci := 10) (C := RX7) (T := TX7) (N := 5) (ty := tyX7) cl10 dX7_trim_41 o6769 3 (by decide) t_550 (v := .ref 272) rfl ?_
  refine x_iload_n (M := M_X7_trim) dX7_trim_44 rfl ?_
  refine x_iald (M := M_X7_trim) dX7_trim_45 w6768 (vp_inD (by decide +kernel)) ?_
  refine x_top (M := M_X7_trim) (y := (Int32.ofInt 0)) (by decide +kernel) ?_
  refine x_if_ne (M := M_X7_trim) (tgt := 56) dX7_trim_46 (by decide) (fun q => absurd q (by decide +kernel)) (fun _ => ?_)
  refine x_aload_n (M := M_X7_trim) dX7_trim_49 rfl ?_
  refine x_getf (M := M_X7_trim) (ci := 10) (C := RX7) (T := TX7) (N := 5) (ty := tyX7) cl10 dX7_trim_50 o6769 4 (by decide) t_551 (v := .ref 273) rfl ?_
  refine x_iload_n (M := M_X7_trim) dX7_trim_53 rfl ?_
  refine x_iconst (M := M_X7_trim) dX7_trim_54 ?_
  have o6771 := (f6767 273 _ (by decide) (f6760 273 _ (by decide) (f6753 273 _ (by decide) o6770)))
  refine y_iast (M := M_X7_trim) (k := 1) dX7_trim_55 o6771 (vp_inD (by decide +kernel)) (by decide +kernel) (fun h6772 w6773 f6774 => ?_)
  have w6775 : ob h6772 273 = some (.inl (0, 16, .inl (fun _ => 0))) := by rw [w6773, up_up (k := 1), up_z (k := 1)]
  have o6776 := (f6774 272 _ (by decide) w6768)
  exact x_vret (M := M_X7_trim) dX7_trim_56 rfl ⟨rfl, (fr_tr f6774 (by decide) (fr_tr f6767 (by decide) (fr_tr f6760 (by decide) (fr_tr f6753 (by decide) fr_rf)))), ⟨o6776, w6775, trivial⟩⟩ (Nat.le_of_ble_eq_true rfl) (Nat.le_of_ble_eq_true rfl)
set_option maxRecDepth 10000 in
theorem q6788 {l : Launch} {E : EE} (hl : l.stackTraces = false) {h : HP} (o6696 : ob h 252 = some (.inr (10, [.ref 253, .ref 254, .ref 255, .ref 272, .ref 273]))) (o6697 : ob h 255 = some (.inl (5, 16, .inr (.inr (.inr (.inr (fun i => if i < 16 then some (255 + 1 + i) else none))))))) (o6712 : ob h 257 = some (.inl (0, 280, .inl (fun _ => 0)))) (o6736 : ob h 272 = some (.inl (0, 16, .inl (fun _ => 0)))) (o6742 : ob h 273 = some (.inl (0, 16, .inl (fun _ => 0)))) : en_C l E M_X7_load 2 0 0 [.ref 252, .int (Int32.ofInt 1), .long (Int64.ofInt 0)] h (pF none [257, 272, 273] h (fun h' => ob h' 257 = some (.inl (0, 280, .inl (fun _ => 0))) ∧ ob h' 272 = some (.inl (0, 16, .inl (fun _ => 0))) ∧ ob h' 273 = some (.inl (0, 16, .inl (fun _ => 0))) ∧ True)) := by
  refine en_mk m_X7_load rfl hl (Nat.le_of_ble_eq_true rfl) ?_
  refine x_lload_n (M := M_X7_load) dX7_load_0 rfl ?_
  refine x_bipush (M := M_X7_load) dX7_load_1 ?_
  refine x_lushr (M := M_X7_load) dX7_load_3 ?_
  refine x_l2i (M := M_X7_load) dX7_load_4 ?_
  refine x_sipush (M := M_X7_load) dX7_load_5 ?_
  refine x_iand (M := M_X7_load) dX7_load_8 ?_
  refine x_top (M := M_X7_load) (y := (Int32.ofInt 0)) (by decide +kernel) ?_
  refine x_istore (M := M_X7_load) dX7_load_9 (Nat.le_of_ble_eq_true rfl) rfl ?_
  refine x_iload (M := M_X7_load) dX7_load_11 rfl ?_
  refine x_if_ne (M := M_X7_load) (tgt := 24) dX7_load_13 (by decide) (fun q => absurd q (by decide +kernel)) (fun _ => ?_)
  refine x_lload_n (M := M_X7_load) dX7_load_16 rfl ?_
  refine x_ldc2 (M := M_X7_load) dX7_load_17 t_2335 ?_
  refine x_land (M := M_X7_load) dX7_load_20 ?_
  refine x_goto (M := M_X7_load) (tgt := 35) dX7_load_21 (by decide) ?_
  refine x_topl (M := M_X7_load) (y := (Int64.ofInt 0)) (by decide +kernel) ?_
  refine x_lstore (M := M_X7_load) dX7_load_35 (Nat.le_of_ble_eq_true rfl) rfl ?_
  refine x_iload (M := M_X7_load) dX7_load_37 rfl ?_
  refine x_iconst (M := M_X7_load) dX7_load_39 ?_
  refine x_isub (M := M_X7_load) dX7_load_40 ?_
  refine x_iconst (M := M_X7_load) dX7_load_41 ?_
  refine x_mmax (M := M_X7_load) dX7_load_42 t_2336 t_1013 t_20 t_1014 (Nat.le_of_ble_eq_true rfl) (Nat.le_of_ble_eq_true rfl) (Nat.le_of_ble_eq_true rfl) (Nat.le_of_ble_eq_true rfl) ?_
  refine x_top (M := M_X7_load) (y := (Int32.ofInt 0)) (by decide +kernel) ?_
  refine x_istore (M := M_X7_load) dX7_load_45 (Nat.le_of_ble_eq_true rfl) rfl ?_
  refine x_iload (M := M_X7_load) dX7_load_47 rfl ?_
  refine x_iconst (M := M_X7_load) dX7_load_49 ?_
  refine x_ishr (M := M_X7_load) dX7_load_50 ?_
  refine x_top (M := M_X7_load) (y := (Int32.ofInt 0)) (by decide +kernel) ?_
  refine x_istore (M := M_X7_load) dX7_load_51 (Nat.le_of_ble_eq_true rfl) rfl ?_
  refine x_iload (M := M_X7_load) dX7_load_53 rfl ?_
  refine x_bipush (M := M_X7_load) dX7_load_55 ?_
  refine x_iand (M := M_X7_load) dX7_load_57 ?_
  refine x_top (M := M_X7_load) (y := (Int32.ofInt 0)) (by decide +kernel) ?_
  refine x_istore (M := M_X7_load) dX7_load_58 (Nat.le_of_ble_eq_true rfl) rfl ?_
  refine x_lvs (M := M_X7_load) (lv' := [some (.ref 252), some (.int (Int32.ofInt 1)), some (.long (Int64.ofInt 0)), none, some (.int (Int32.ofInt 0)), some (.long (Int64.ofInt 0)), none, some (.int (Int32.ofInt 0)), some (.int (Int32.ofInt 0)), some (.int (Int32.ofInt 0)), none, none, none, none]) rfl ?_
  refine x_aload_n (M := M_X7_load) dX7_load_60 rfl ?_
  refine x_getf (M := M_X7_load) (ci := 10) (C := RX7) (T := TX7) (N := 5) (ty := tyX7) cl10 dX7_load_61 o6696 2 (by decide) t_549 (v := .ref 255) rfl ?_
  refine x_iload_n (M := M_X7_load) dX7_load_64 rfl ?_
  refine x_gald (M := M_X7_load) (b := 257) dX7_load_65 o6697 (vp_inD (by decide +kernel)) (by decide +kernel) ?_
  refine x_iconst (M := M_X7_load) dX7_load_66 ?_
  refine x_iload (M := M_X7_load) dX7_load_67 rfl ?_
  refine x_iconst (M := M_X7_load) dX7_load_69 ?_
  refine x_iadd (M := M_X7_load) dX7_load_70 ?_
  refine x_iconst (M := M_X7_load) dX7_load_71 ?_
  refine x_norm (M := M_X7_load) (st' := [.int (Int32.ofInt 0), .int (Int32.ofInt 3), .int (Int32.ofInt 0), .ref 257]) rfl (v_cons (vi_cons (by decide +kernel : ((Int32.ofInt 0) + (Int32.ofInt 3)) = (Int32.ofInt 3)) rfl)) rfl rfl rfl ?_
  refine y_callSR (M := M_X7_load) (M' := M_J7_fill_fda19) rfl rfl dX7_load_72 m_J7_fill_fda19 t_2337 t_1522 (q6711 hl o6712) rfl rfl (Nat.le_of_ble_eq_true rfl) (Nat.le_of_ble_eq_true rfl) (Nat.le_of_ble_eq_true rfl) (Nat.le_of_ble_eq_true rfl) (fun h6713 f6714 w6715 => ?_)
  obtain ⟨o6716, -⟩ := w6715
  refine x_lload (M := M_X7_load) dX7_load_75 rfl ?_
  refine x_ldc2 (M := M_X7_load) dX7_load_77 t_2338 ?_
  refine x_land (M := M_X7_load) dX7_load_80 ?_
  refine x_iload (M := M_X7_load) dX7_load_81 rfl ?_
  refine x_lshl (M := M_X7_load) dX7_load_83 ?_
  refine x_topl (M := M_X7_load) (y := (Int64.ofInt 0)) (by decide +kernel) ?_
  refine x_lstore (M := M_X7_load) dX7_load_84 (Nat.le_of_ble_eq_true rfl) rfl ?_
  refine x_lload (M := M_X7_load) dX7_load_86 rfl ?_
  refine x_bipush (M := M_X7_load) dX7_load_88 ?_
  refine x_lushr (M := M_X7_load) dX7_load_90 ?_
  refine x_iload (M := M_X7_load) dX7_load_91 rfl ?_
  refine x_lshl (M := M_X7_load) dX7_load_93 ?_
  refine x_lload (M := M_X7_load) dX7_load_94 rfl ?_
  refine x_bipush (M := M_X7_load) dX7_load_96 ?_
  refine x_lushr (M := M_X7_load) dX7_load_98 ?_
  refine x_ladd (M := M_X7_load) dX7_load_99 ?_
  refine x_topl (M := M_X7_load) (y := (Int64.ofInt 0)) (by decide +kernel) ?_
  refine x_lstore (M := M_X7_load) dX7_load_100 (Nat.le_of_ble_eq_true rfl) rfl ?_
  refine x_aload_n (M := M_X7_load) dX7_load_102 rfl ?_
  have o6717 := (f6714 252 _ (by decide) o6696)
  refine x_getf (M := M_X7_load) (ci := 10) (C := RX7) (T := TX7) (N := 5) (ty := tyX7) cl10 dX7_load_103 o6717 2 (by decide) t_549 (v := .ref 255) rfl ?_
  refine x_iload_n (M := M_X7_load) dX7_load_106 rfl ?_
  have o6718 := (f6714 255 _ (by decide) o6697)
  refine x_gald (M := M_X7_load) (b := 257) dX7_load_107 o6718 (vp_inD (by decide +kernel)) (by decide +kernel) ?_
  refine x_iload (M := M_X7_load) dX7_load_108 rfl ?_
  refine x_lload (M := M_X7_load) dX7_load_110 rfl ?_
  refine x_l2i (M := M_X7_load) dX7_load_112 ?_
  refine x_norm (M := M_X7_load) (st' := [.int (Int32.ofInt 0), .int (Int32.ofInt 0), .ref 257]) rfl (vi_cons (by decide +kernel : ((Int64.ofInt 0).toInt32) = (Int32.ofInt 0)) rfl) rfl rfl rfl ?_
  refine y_iast (M := M_X7_load) (k := 0) dX7_load_113 o6716 (vp_inD (by decide +kernel)) (by decide +kernel) (fun h6719 w6720 f6721 => ?_)
  have w6722 : ob h6719 257 = some (.inl (0, 280, .inl (fun _ => 0))) := by rw [w6720, up_z (k := 0)]
  refine x_aload_n (M := M_X7_load) dX7_load_114 rfl ?_
  have o6723 := (f6721 252 _ (by decide) o6717)
  refine x_getf (M := M_X7_load) (ci := 10) (C := RX7) (T := TX7) (N := 5) (ty := tyX7) cl10 dX7_load_115 o6723 2 (by decide) t_549 (v := .ref 255) rfl ?_
  refine x_iload_n (M := M_X7_load) dX7_load_118 rfl ?_
  have o6724 := (f6721 255 _ (by decide) o6718)
  refine x_gald (M := M_X7_load) (b := 257) dX7_load_119 o6724 (vp_inD (by decide +kernel)) (by decide +kernel) ?_
  refine x_iload (M := M_X7_load) dX7_load_120 rfl ?_
  refine x_iconst (M := M_X7_load) dX7_load_122 ?_
  refine x_iadd (M := M_X7_load) dX7_load_123 ?_
  refine x_lload (M := M_X7_load) dX7_load_124 rfl ?_
  refine x_l2i (M := M_X7_load) dX7_load_126 ?_
  refine x_norm (M := M_X7_load) (st' := [.int (Int32.ofInt 0), .int (Int32.ofInt 1), .ref 257]) rfl (vi_cons (by decide +kernel : ((Int64.ofInt 0).toInt32) = (Int32.ofInt 0)) (vi_cons (by decide +kernel : ((Int32.ofInt 0) + (Int32.ofInt 1)) = (Int32.ofInt 1)) rfl)) rfl rfl rfl ?_
  refine y_iast (M := M_X7_load) (k := 1) dX7_load_127 w6722 (vp_inD (by decide +kernel)) (by decide +kernel) (fun h6725 w6726 f6727 => ?_)
  have w6728 : ob h6725 257 = some (.inl (0, 280, .inl (fun _ => 0))) := by rw [w6726, up_z (k := 1)]
  refine x_aload_n (M := M_X7_load) dX7_load_128 rfl ?_
  have o6729 := (f6727 252 _ (by decide) o6723)
  refine x_getf (M := M_X7_load) (ci := 10) (C := RX7) (T := TX7) (N := 5) (ty := tyX7) cl10 dX7_load_129 o6729 2 (by decide) t_549 (v := .ref 255) rfl ?_
  refine x_iload_n (M := M_X7_load) dX7_load_132 rfl ?_
  have o6730 := (f6727 255 _ (by decide) o6724)
  refine x_gald (M := M_X7_load) (b := 257) dX7_load_133 o6730 (vp_inD (by decide +kernel)) (by decide +kernel) ?_
  refine x_iload (M := M_X7_load) dX7_load_134 rfl ?_
  refine x_iconst (M := M_X7_load) dX7_load_136 ?_
  refine x_iadd (M := M_X7_load) dX7_load_137 ?_
  refine x_lload (M := M_X7_load) dX7_load_138 rfl ?_
  refine x_bipush (M := M_X7_load) dX7_load_140 ?_
  refine x_lushr (M := M_X7_load) dX7_load_142 ?_
  refine x_l2i (M := M_X7_load) dX7_load_143 ?_
  refine x_norm (M := M_X7_load) (st' := [.int (Int32.ofInt 0), .int (Int32.ofInt 2), .ref 257]) rfl (vi_cons (by decide +kernel : ((((Int64.ofInt 0).toUInt64 >>> (((Int8.ofInt 32).toInt32).toInt64.toUInt64 &&& Int64.toUInt64 63)).toInt64).toInt32) = (Int32.ofInt 0)) (vi_cons (by decide +kernel : ((Int32.ofInt 0) + (Int32.ofInt 2)) = (Int32.ofInt 2)) rfl)) rfl rfl rfl ?_
  refine y_iast (M := M_X7_load) (k := 2) dX7_load_144 w6728 (vp_inD (by decide +kernel)) (by decide +kernel) (fun h6731 w6732 f6733 => ?_)
  have w6734 : ob h6731 257 = some (.inl (0, 280, .inl (fun _ => 0))) := by rw [w6732, up_z (k := 2)]
  refine x_aload_n (M := M_X7_load) dX7_load_145 rfl ?_
  have o6735 := (f6733 252 _ (by decide) o6729)
  refine x_getf (M := M_X7_load) (ci := 10) (C := RX7) (T := TX7) (N := 5) (ty := tyX7) cl10 dX7_load_146 o6735 3 (by decide) t_550 (v := .ref 272) rfl ?_
  refine x_iload_n (M := M_X7_load) dX7_load_149 rfl ?_
  refine x_iload (M := M_X7_load) dX7_load_150 rfl ?_
  refine x_iconst (M := M_X7_load) dX7_load_152 ?_
  refine x_iadd (M := M_X7_load) dX7_load_153 ?_
  refine x_norm (M := M_X7_load) (st' := [.int (Int32.ofInt 3), .int (Int32.ofInt 1), .ref 272]) rfl (vi_cons (by decide +kernel : ((Int32.ofInt 0) + (Int32.ofInt 3)) = (Int32.ofInt 3)) rfl) rfl rfl rfl ?_
  have o6737 := (f6733 272 _ (by decide) (f6727 272 _ (by decide) (f6721 272 _ (by decide) (f6714 272 _ (by decide) o6736))))
  refine y_iast (M := M_X7_load) (k := 1) dX7_load_154 o6737 (vp_inD (by decide +kernel)) (by decide +kernel) (fun h6738 w6739 f6740 => ?_)
  refine x_aload_n (M := M_X7_load) dX7_load_155 rfl ?_
  have o6741 := (f6740 252 _ (by decide) o6735)
  refine x_getf (M := M_X7_load) (ci := 10) (C := RX7) (T := TX7) (N := 5) (ty := tyX7) cl10 dX7_load_156 o6741 4 (by decide) t_551 (v := .ref 273) rfl ?_
  refine x_iload_n (M := M_X7_load) dX7_load_159 rfl ?_
  refine x_lload_n (M := M_X7_load) dX7_load_160 rfl ?_
  refine x_lconst (M := M_X7_load) dX7_load_161 ?_
  refine x_lcmp (M := M_X7_load) dX7_load_162 ?_
  refine x_if_ge (M := M_X7_load) (tgt := 170) dX7_load_163 (by decide) (fun _ => ?_) (fun q => absurd q (by decide +kernel))
  refine x_iconst (M := M_X7_load) dX7_load_170 ?_
  have o6743 := (f6740 273 _ (by decide) (f6733 273 _ (by decide) (f6727 273 _ (by decide) (f6721 273 _ (by decide) (f6714 273 _ (by decide) o6742)))))
  refine y_iast (M := M_X7_load) (k := 1) dX7_load_171 o6743 (vp_inD (by decide +kernel)) (by decide +kernel) (fun h6744 w6745 f6746 => ?_)
  refine x_aload_n (M := M_X7_load) dX7_load_172 rfl ?_
  refine x_iload_n (M := M_X7_load) dX7_load_173 rfl ?_
  have o6778 := (f6746 252 _ (by decide) o6741)
  have o6779 := (f6746 272 _ (by decide) w6739)
  have o6780 := (f6746 255 _ (by decide) (f6740 255 _ (by decide) (f6733 255 _ (by decide) o6730)))
  have o6781 := (f6746 257 _ (by decide) (f6740 257 _ (by decide) w6734))
  refine y_callVR (M := M_X7_load) (M' := M_X7_trim) rfl rfl dX7_load_174 m_X7_trim t_2339 t_2341 s_150 (q6777 hl o6778 o6779 o6780 o6781 w6745) rfl rfl o6778 rfl (Nat.le_of_ble_eq_true rfl) (Nat.le_of_ble_eq_true rfl) (Nat.le_of_ble_eq_true rfl) (Nat.le_of_ble_eq_true rfl) (fun h6782 f6783 w6784 => ?_)
  obtain ⟨o6785, o6786, -⟩ := w6784
  have o6787 := (f6783 257 _ (by decide) o6781)
  exact x_vret (M := M_X7_load) dX7_load_177 rfl ⟨rfl, (fr_tr f6783 (by decide) (fr_tr f6746 (by decide) (fr_tr f6740 (by decide) (fr_tr f6733 (by decide) (fr_tr f6727 (by decide) (fr_tr f6721 (by decide) (fr_tr f6714 (by decide) fr_rf))))))), ⟨o6787, o6785, o6786, trivial⟩⟩ (Nat.le_of_ble_eq_true rfl) (Nat.le_of_ble_eq_true rfl)
set_option maxRecDepth 10000 in
theorem q6805 {l : Launch} {E : EE} (hl : l.stackTraces = false) {h : HP} (o6803 : ob h 252 = some (.inr (10, [.ref 253, .ref 254, .ref 255, .ref 272, .ref 273]))) (o6804 : ob h 272 = some (.inl (0, 16, .inl (fun _ => 0)))) : en_C l E M_X7_limbAt 0 0 0 [.ref 252, .int (Int32.ofInt 0), .int (Int32.ofInt 0)] h (pR (some (.long (Int64.ofInt 0))) h) := by
  refine en_mk m_X7_limbAt rfl hl (Nat.le_of_ble_eq_true rfl) ?_
  refine x_iload_n (M := M_X7_limbAt) dX7_limbAt_0 rfl ?_
  refine x_aload_n (M := M_X7_limbAt) dX7_limbAt_1 rfl ?_
  refine x_getf (M := M_X7_limbAt) (ci := 10) (C := RX7) (T := TX7) (N := 5) (ty := tyX7) cl10 dX7_limbAt_2 o6803 3 (by decide) t_550 (v := .ref 272) rfl ?_
  refine x_iload_n (M := M_X7_limbAt) dX7_limbAt_5 rfl ?_
  refine x_iald (M := M_X7_limbAt) dX7_limbAt_6 o6804 (vp_inD (by decide +kernel)) ?_
  refine x_top (M := M_X7_limbAt) (y := (Int32.ofInt 0)) (by decide +kernel) ?_
  refine x_icmp_ge (M := M_X7_limbAt) (tgt := 26) dX7_limbAt_7 (by decide) (fun _ => ?_) (fun q => absurd q (by decide +kernel))
  refine x_lconst (M := M_X7_limbAt) dX7_limbAt_26 ?_
  refine x_topl (M := M_X7_limbAt) (y := (Int64.ofInt 0)) (by decide +kernel) ?_
  exact x_lret (M := M_X7_limbAt) dX7_limbAt_27 rfl ⟨rfl, rfl⟩ (Nat.le_of_ble_eq_true rfl) (Nat.le_of_ble_eq_true rfl)
set_option maxRecDepth 10000 in
theorem q6808 {l : Launch} {E : EE} (hl : l.stackTraces = false) {h : HP} (o6806 : ob h 252 = some (.inr (10, [.ref 253, .ref 254, .ref 255, .ref 272, .ref 273]))) (o6807 : ob h 272 = some (.inl (0, 16, .inl (fun _ => 0)))) : en_C l E M_X7_limbAt 0 0 0 [.ref 252, .int (Int32.ofInt 1), .int (Int32.ofInt 0)] h (pR (some (.long (Int64.ofInt 0))) h) := by
  refine en_mk m_X7_limbAt rfl hl (Nat.le_of_ble_eq_true rfl) ?_
  refine x_iload_n (M := M_X7_limbAt) dX7_limbAt_0 rfl ?_
  refine x_aload_n (M := M_X7_limbAt) dX7_limbAt_1 rfl ?_
  refine x_getf (M := M_X7_limbAt) (ci := 10) (C := RX7) (T := TX7) (N := 5) (ty := tyX7) cl10 dX7_limbAt_2 o6806 3 (by decide) t_550 (v := .ref 272) rfl ?_
  refine x_iload_n (M := M_X7_limbAt) dX7_limbAt_5 rfl ?_
  refine x_iald (M := M_X7_limbAt) dX7_limbAt_6 o6807 (vp_inD (by decide +kernel)) ?_
  refine x_top (M := M_X7_limbAt) (y := (Int32.ofInt 0)) (by decide +kernel) ?_
  refine x_icmp_ge (M := M_X7_limbAt) (tgt := 26) dX7_limbAt_7 (by decide) (fun _ => ?_) (fun q => absurd q (by decide +kernel))
  refine x_lconst (M := M_X7_limbAt) dX7_limbAt_26 ?_
  refine x_topl (M := M_X7_limbAt) (y := (Int64.ofInt 0)) (by decide +kernel) ?_
  exact x_lret (M := M_X7_limbAt) dX7_limbAt_27 rfl ⟨rfl, rfl⟩ (Nat.le_of_ble_eq_true rfl) (Nat.le_of_ble_eq_true rfl)
set_option maxRecDepth 10000 in
theorem q6821 {l : Launch} {E : EE} (hl : l.stackTraces = false) {h : HP} (o6801 : ob h 252 = some (.inr (10, [.ref 253, .ref 254, .ref 255, .ref 272, .ref 273]))) (o6802 : ob h 272 = some (.inl (0, 16, .inl (fun _ => 0)))) (o6809 : ob h 255 = some (.inl (5, 16, .inr (.inr (.inr (.inr (fun i => if i < 16 then some (255 + 1 + i) else none))))))) (o6810 : ob h 258 = some (.inl (0, 280, .inl (fun _ => 0)))) : en_C l E M_X7_addLimbs 1 0 0 [.ref 252, .int (Int32.ofInt 2), .int (Int32.ofInt 0), .int (Int32.ofInt 1), .int (Int32.ofInt 1)] h (pF none [258, 272] h (fun h' => ob h' 258 = some (.inl (0, 280, .inl (fun _ => 0))) ∧ ob h' 272 = some (.inl (0, 16, .inl (upd (fun _ => 0) 2 (Int32.ofInt 1)))) ∧ True)) := by
  refine en_mk m_X7_addLimbs rfl hl (Nat.le_of_ble_eq_true rfl) ?_
  refine x_aload_n (M := M_X7_addLimbs) dX7_addLimbs_0 rfl ?_
  refine x_getf (M := M_X7_addLimbs) (ci := 10) (C := RX7) (T := TX7) (N := 5) (ty := tyX7) cl10 dX7_addLimbs_1 o6801 3 (by decide) t_550 (v := .ref 272) rfl ?_
  refine x_iload_n (M := M_X7_addLimbs) dX7_addLimbs_4 rfl ?_
  refine x_iald (M := M_X7_addLimbs) dX7_addLimbs_5 o6802 (vp_inD (by decide +kernel)) ?_
  refine x_top (M := M_X7_addLimbs) (y := (Int32.ofInt 0)) (by decide +kernel) ?_
  refine x_aload_n (M := M_X7_addLimbs) dX7_addLimbs_6 rfl ?_
  refine x_getf (M := M_X7_addLimbs) (ci := 10) (C := RX7) (T := TX7) (N := 5) (ty := tyX7) cl10 dX7_addLimbs_7 o6801 3 (by decide) t_550 (v := .ref 272) rfl ?_
  refine x_iload_n (M := M_X7_addLimbs) dX7_addLimbs_10 rfl ?_
  refine x_iald (M := M_X7_addLimbs) dX7_addLimbs_11 o6802 (vp_inD (by decide +kernel)) ?_
  refine x_top (M := M_X7_addLimbs) (y := (Int32.ofInt 0)) (by decide +kernel) ?_
  refine x_mmax (M := M_X7_addLimbs) dX7_addLimbs_12 t_2336 t_1013 t_20 t_1014 (Nat.le_of_ble_eq_true rfl) (Nat.le_of_ble_eq_true rfl) (Nat.le_of_ble_eq_true rfl) (Nat.le_of_ble_eq_true rfl) ?_
  refine x_top (M := M_X7_addLimbs) (y := (Int32.ofInt 0)) (by decide +kernel) ?_
  refine x_iconst (M := M_X7_addLimbs) dX7_addLimbs_15 ?_
  refine x_iadd (M := M_X7_addLimbs) dX7_addLimbs_16 ?_
  refine x_sipush (M := M_X7_addLimbs) dX7_addLimbs_17 ?_
  refine x_mmin (M := M_X7_addLimbs) dX7_addLimbs_20 t_2351 t_626 t_20 t_627 (Nat.le_of_ble_eq_true rfl) (Nat.le_of_ble_eq_true rfl) (Nat.le_of_ble_eq_true rfl) (Nat.le_of_ble_eq_true rfl) ?_
  refine x_top (M := M_X7_addLimbs) (y := (Int32.ofInt 1)) (by decide +kernel) ?_
  refine x_istore (M := M_X7_addLimbs) dX7_addLimbs_23 (Nat.le_of_ble_eq_true rfl) rfl ?_
  refine x_lconst (M := M_X7_addLimbs) dX7_addLimbs_25 ?_
  refine x_topl (M := M_X7_addLimbs) (y := (Int64.ofInt 0)) (by decide +kernel) ?_
  refine x_lstore (M := M_X7_addLimbs) dX7_addLimbs_26 (Nat.le_of_ble_eq_true rfl) rfl ?_
  refine x_iconst (M := M_X7_addLimbs) dX7_addLimbs_28 ?_
  refine x_istore (M := M_X7_addLimbs) dX7_addLimbs_29 (Nat.le_of_ble_eq_true rfl) rfl ?_
  refine x_iload (M := M_X7_addLimbs) dX7_addLimbs_31 rfl ?_
  refine x_iload (M := M_X7_addLimbs) dX7_addLimbs_33 rfl ?_
  refine x_icmp_ge (M := M_X7_addLimbs) (tgt := 87) dX7_addLimbs_35 (by decide) (fun q => absurd q (by decide +kernel)) (fun _ => ?_)
  refine x_aload_n (M := M_X7_addLimbs) dX7_addLimbs_38 rfl ?_
  refine x_iload_n (M := M_X7_addLimbs) dX7_addLimbs_39 rfl ?_
  refine x_iload (M := M_X7_addLimbs) dX7_addLimbs_40 rfl ?_
  refine x_callVR (M := M_X7_addLimbs) (M' := M_X7_limbAt) rfl rfl dX7_addLimbs_42 m_X7_limbAt t_2352 t_2354 s_153 (q6805 hl o6801 o6802) rfl rfl o6801 rfl (Nat.le_of_ble_eq_true rfl) (Nat.le_of_ble_eq_true rfl) (Nat.le_of_ble_eq_true rfl) (Nat.le_of_ble_eq_true rfl) ?_
  refine x_iload (M := M_X7_addLimbs) dX7_addLimbs_45 rfl ?_
  refine x_i2l (M := M_X7_addLimbs) dX7_addLimbs_47 ?_
  refine x_aload_n (M := M_X7_addLimbs) dX7_addLimbs_48 rfl ?_
  refine x_iload_n (M := M_X7_addLimbs) dX7_addLimbs_49 rfl ?_
  refine x_iload (M := M_X7_addLimbs) dX7_addLimbs_50 rfl ?_
  refine x_callVR (M := M_X7_addLimbs) (M' := M_X7_limbAt) rfl rfl dX7_addLimbs_52 m_X7_limbAt t_2352 t_2354 s_153 (q6808 hl o6801 o6802) rfl rfl o6801 rfl (Nat.le_of_ble_eq_true rfl) (Nat.le_of_ble_eq_true rfl) (Nat.le_of_ble_eq_true rfl) (Nat.le_of_ble_eq_true rfl) ?_
  refine x_lmul (M := M_X7_addLimbs) dX7_addLimbs_55 ?_
  refine x_ladd (M := M_X7_addLimbs) dX7_addLimbs_56 ?_
  refine x_lload (M := M_X7_addLimbs) dX7_addLimbs_57 rfl ?_
  refine x_ladd (M := M_X7_addLimbs) dX7_addLimbs_59 ?_
  refine x_topl (M := M_X7_addLimbs) (y := (Int64.ofInt 0)) (by decide +kernel) ?_
  refine x_lstore (M := M_X7_addLimbs) dX7_addLimbs_60 (Nat.le_of_ble_eq_true rfl) rfl ?_
  refine x_aload_n (M := M_X7_addLimbs) dX7_addLimbs_62 rfl ?_
  refine x_getf (M := M_X7_addLimbs) (ci := 10) (C := RX7) (T := TX7) (N := 5) (ty := tyX7) cl10 dX7_addLimbs_63 o6801 2 (by decide) t_549 (v := .ref 255) rfl ?_
  refine x_iload_n (M := M_X7_addLimbs) dX7_addLimbs_66 rfl ?_
  refine x_gald (M := M_X7_addLimbs) (b := 258) dX7_addLimbs_67 o6809 (vp_inD (by decide +kernel)) (by decide +kernel) ?_
  refine x_iload (M := M_X7_addLimbs) dX7_addLimbs_68 rfl ?_
  refine x_lload (M := M_X7_addLimbs) dX7_addLimbs_70 rfl ?_
  refine x_l2i (M := M_X7_addLimbs) dX7_addLimbs_72 ?_
  refine x_norm (M := M_X7_addLimbs) (st' := [.int (Int32.ofInt 0), .int (Int32.ofInt 0), .ref 258]) rfl (vi_cons (by decide +kernel : ((Int64.ofInt 0).toInt32) = (Int32.ofInt 0)) rfl) rfl rfl rfl ?_
  refine y_iast (M := M_X7_addLimbs) (k := 0) dX7_addLimbs_73 o6810 (vp_inD (by decide +kernel)) (by decide +kernel) (fun h6811 w6812 f6813 => ?_)
  have w6814 : ob h6811 258 = some (.inl (0, 280, .inl (fun _ => 0))) := by rw [w6812, up_z (k := 0)]
  refine x_lload (M := M_X7_addLimbs) dX7_addLimbs_74 rfl ?_
  refine x_bipush (M := M_X7_addLimbs) dX7_addLimbs_76 ?_
  refine x_lshr (M := M_X7_addLimbs) dX7_addLimbs_78 ?_
  refine x_topl (M := M_X7_addLimbs) (y := (Int64.ofInt 0)) (by decide +kernel) ?_
  refine x_lstore (M := M_X7_addLimbs) dX7_addLimbs_79 (Nat.le_of_ble_eq_true rfl) rfl ?_
  refine x_lvs (M := M_X7_addLimbs) (lv' := [some (.ref 252), some (.int (Int32.ofInt 2)), some (.int (Int32.ofInt 0)), some (.int (Int32.ofInt 1)), some (.int (Int32.ofInt 1)), some (.int (Int32.ofInt 1)), some (.long (Int64.ofInt 0)), none, some (.int (Int32.ofInt 0)), some (.long (Int64.ofInt 0)), none]) rfl ?_
  refine x_iinc (M := M_X7_addLimbs) dX7_addLimbs_81 rfl (Nat.le_of_ble_eq_true rfl) rfl ?_
  refine x_lvs (M := M_X7_addLimbs) (lv' := [some (.ref 252), some (.int (Int32.ofInt 2)), some (.int (Int32.ofInt 0)), some (.int (Int32.ofInt 1)), some (.int (Int32.ofInt 1)), some (.int (Int32.ofInt 1)), some (.long (Int64.ofInt 0)), none, some (.int (Int32.ofInt 1)), some (.long (Int64.ofInt 0)), none]) (by rw [(by decide +kernel : (Int32.ofInt 0) + Int32.ofInt 1 = (Int32.ofInt 1))] <;> rfl) ?_
  refine x_goto (M := M_X7_addLimbs) (tgt := 31) dX7_addLimbs_84 (by decide) ?_
  refine x_iload (M := M_X7_addLimbs) dX7_addLimbs_31 rfl ?_
  refine x_iload (M := M_X7_addLimbs) dX7_addLimbs_33 rfl ?_
  refine x_icmp_ge (M := M_X7_addLimbs) (tgt := 87) dX7_addLimbs_35 (by decide) (fun _ => ?_) (fun q => absurd q (by decide +kernel))
  refine x_aload_n (M := M_X7_addLimbs) dX7_addLimbs_87 rfl ?_
  have o6815 := (f6813 252 _ (by decide) o6801)
  refine x_getf (M := M_X7_addLimbs) (ci := 10) (C := RX7) (T := TX7) (N := 5) (ty := tyX7) cl10 dX7_addLimbs_88 o6815 3 (by decide) t_550 (v := .ref 272) rfl ?_
  refine x_iload_n (M := M_X7_addLimbs) dX7_addLimbs_91 rfl ?_
  refine x_iload (M := M_X7_addLimbs) dX7_addLimbs_92 rfl ?_
  have o6816 := (f6813 272 _ (by decide) o6802)
  refine y_iast (M := M_X7_addLimbs) (k := 2) dX7_addLimbs_94 o6816 (vp_inD (by decide +kernel)) (by decide +kernel) (fun h6817 w6818 f6819 => ?_)
  have o6820 := (f6819 258 _ (by decide) w6814)
  exact x_vret (M := M_X7_addLimbs) dX7_addLimbs_95 rfl ⟨rfl, (fr_tr f6819 (by decide) (fr_tr f6813 (by decide) fr_rf)), ⟨o6820, w6818, trivial⟩⟩ (Nat.le_of_ble_eq_true rfl) (Nat.le_of_ble_eq_true rfl)
set_option maxRecDepth 10000 in
theorem q6852 {l : Launch} {E : EE} (hl : l.stackTraces = false) {h : HP} (o6836 : ob h 252 = some (.inr (10, [.ref 253, .ref 254, .ref 255, .ref 272, .ref 273]))) (o6837 : ob h 272 = some (.inl (0, 16, .inl (upd (fun _ => 0) 2 (Int32.ofInt 1))))) (o6838 : ob h 255 = some (.inl (5, 16, .inr (.inr (.inr (.inr (fun i => if i < 16 then some (255 + 1 + i) else none))))))) (o6839 : ob h 258 = some (.inl (0, 280, .inl (fun _ => 0)))) (o6845 : ob h 273 = some (.inl (0, 16, .inl (fun _ => 0)))) : en_C l E M_X7_trim 0 0 0 [.ref 252, .int (Int32.ofInt 2)] h (pF none [272, 273] h (fun h' => ob h' 272 = some (.inl (0, 16, .inl (fun _ => 0))) ∧ ob h' 273 = some (.inl (0, 16, .inl (fun _ => 0))) ∧ True)) := by
  refine en_mk m_X7_trim rfl hl (Nat.le_of_ble_eq_true rfl) ?_
  refine x_aload_n (M := M_X7_trim) dX7_trim_0 rfl ?_
  refine x_getf (M := M_X7_trim) (ci := 10) (C := RX7) (T := TX7) (N := 5) (ty := tyX7) cl10 dX7_trim_1 o6836 3 (by decide) t_550 (v := .ref 272) rfl ?_
  refine x_iload_n (M := M_X7_trim) dX7_trim_4 rfl ?_
  refine x_iald (M := M_X7_trim) dX7_trim_5 o6837 (vp_inD (by decide +kernel)) ?_
  refine x_top (M := M_X7_trim) (y := (Int32.ofInt 1)) (by decide +kernel) ?_
  refine x_if_le (M := M_X7_trim) (tgt := 40) dX7_trim_6 (by decide) (fun q => absurd q (by decide +kernel)) (fun _ => ?_)
  refine x_aload_n (M := M_X7_trim) dX7_trim_9 rfl ?_
  refine x_getf (M := M_X7_trim) (ci := 10) (C := RX7) (T := TX7) (N := 5) (ty := tyX7) cl10 dX7_trim_10 o6836 2 (by decide) t_549 (v := .ref 255) rfl ?_
  refine x_iload_n (M := M_X7_trim) dX7_trim_13 rfl ?_
  refine x_gald (M := M_X7_trim) (b := 258) dX7_trim_14 o6838 (vp_inD (by decide +kernel)) (by decide +kernel) ?_
  refine x_aload_n (M := M_X7_trim) dX7_trim_15 rfl ?_
  refine x_getf (M := M_X7_trim) (ci := 10) (C := RX7) (T := TX7) (N := 5) (ty := tyX7) cl10 dX7_trim_16 o6836 3 (by decide) t_550 (v := .ref 272) rfl ?_
  refine x_iload_n (M := M_X7_trim) dX7_trim_19 rfl ?_
  refine x_iald (M := M_X7_trim) dX7_trim_20 o6837 (vp_inD (by decide +kernel)) ?_
  refine x_top (M := M_X7_trim) (y := (Int32.ofInt 1)) (by decide +kernel) ?_
  refine x_iconst (M := M_X7_trim) dX7_trim_21 ?_
  refine x_isub (M := M_X7_trim) dX7_trim_22 ?_
  refine x_iald (M := M_X7_trim) dX7_trim_23 o6839 (vp_inD (by decide +kernel)) ?_
  refine x_top (M := M_X7_trim) (y := (Int32.ofInt 0)) (by decide +kernel) ?_
  refine x_if_ne (M := M_X7_trim) (tgt := 40) dX7_trim_24 (by decide) (fun q => absurd q (by decide +kernel)) (fun _ => ?_)
  refine x_aload_n (M := M_X7_trim) dX7_trim_27 rfl ?_
  refine x_getf (M := M_X7_trim) (ci := 10) (C := RX7) (T := TX7) (N := 5) (ty := tyX7) cl10 dX7_trim_28 o6836 3 (by decide) t_550 (v := .ref 272) rfl ?_
  refine x_iload_n (M := M_X7_trim) dX7_trim_31 rfl ?_
  refine x_dup2 (M := M_X7_trim) dX7_trim_32 rfl rfl ?_
  refine x_iald (M := M_X7_trim) dX7_trim_33 o6837 (vp_inD (by decide +kernel)) ?_
  refine x_top (M := M_X7_trim) (y := (Int32.ofInt 1)) (by decide +kernel) ?_
  refine x_iconst (M := M_X7_trim) dX7_trim_34 ?_
  refine x_isub (M := M_X7_trim) dX7_trim_35 ?_
  refine x_norm (M := M_X7_trim) (st' := [.int (Int32.ofInt 0), .int (Int32.ofInt 2), .ref 272]) rfl (vi_cons (by decide +kernel : ((Int32.ofInt 1) - (Int32.ofInt 1)) = (Int32.ofInt 0)) rfl) rfl rfl rfl ?_
  refine y_iast (M := M_X7_trim) (k := 2) dX7_trim_36 o6837 (vp_inD (by decide +kernel)) (by decide +kernel) (fun h6840 w6841 f6842 => ?_)
  have w6843 : ob h6840 272 = some (.inl (0, 16, .inl (fun _ => 0))) := by rw [w6841, up_up (k := 2), up_z (k := 2)]
  refine x_goto (M := M_X7_trim) (tgt := 0) dX7_trim_37 (by decide) ?_
  refine x_aload_n (M := M_X7_trim) dX7_trim_0 rfl ?_
  have o6844 := (f6842 252 _ (by decide) o6836)
  refine x_getf (M := M_X7_trim) (ci := 10) (C := RX7) (T := TX7) (N := 5) (ty := tyX7) cl10 dX7_trim_1 o6844 3 (by decide) t_550 (v := .ref 272) rfl ?_
  refine x_iload_n (M := M_X7_trim) dX7_trim_4 rfl ?_
  refine x_iald (M := M_X7_trim) dX7_trim_5 w6843 (vp_inD (by decide +kernel)) ?_
  refine x_top (M := M_X7_trim) (y := (Int32.ofInt 0)) (by decide +kernel) ?_
  refine x_if_le (M := M_X7_trim) (tgt := 40) dX7_trim_6 (by decide) (fun _ => ?_) (fun q => absurd q (by decide +kernel))
  refine x_aload_n (M := M_X7_trim) dX7_trim_40 rfl ?_
  refine x_getf (M := M_X7_trim) (ci := 10) (C := RX7) (T := TX7) (N := 5) (ty := tyX7) cl10 dX7_trim_41 o6844 3 (by decide) t_550 (v := .ref 272) rfl ?_
  refine x_iload_n (M := M_X7_trim) dX7_trim_44 rfl ?_
  refine x_iald (M := M_X7_trim) dX7_trim_45 w6843 (vp_inD (by decide +kernel)) ?_
  refine x_top (M := M_X7_trim) (y := (Int32.ofInt 0)) (by decide +kernel) ?_
  refine x_if_ne (M := M_X7_trim) (tgt := 56) dX7_trim_46 (by decide) (fun q => absurd q (by decide +kernel)) (fun _ => ?_)
  refine x_aload_n (M := M_X7_trim) dX7_trim_49 rfl ?_
  refine x_getf (M := M_X7_trim) (ci := 10) (C := RX7) (T := TX7) (N := 5) (ty := tyX7) cl10 dX7_trim_50 o6844 4 (by decide) t_551 (v := .ref 273) rfl ?_
  refine x_iload_n (M := M_X7_trim) dX7_trim_53 rfl ?_
  refine x_iconst (M := M_X7_trim) dX7_trim_54 ?_
  have o6846 := (f6842 273 _ (by decide) o6845)
  refine y_iast (M := M_X7_trim) (k := 2) dX7_trim_55 o6846 (vp_inD (by decide +kernel)) (by decide +kernel) (fun h6847 w6848 f6849 => ?_)
  have w6850 : ob h6847 273 = some (.inl (0, 16, .inl (fun _ => 0))) := by rw [w6848, up_z (k := 2)]
  have o6851 := (f6849 272 _ (by decide) w6843)
  exact x_vret (M := M_X7_trim) dX7_trim_56 rfl ⟨rfl, (fr_tr f6849 (by decide) (fr_tr f6842 (by decide) fr_rf)), ⟨o6851, w6850, trivial⟩⟩ (Nat.le_of_ble_eq_true rfl) (Nat.le_of_ble_eq_true rfl)
set_option maxRecDepth 10000 in
theorem q6863 {l : Launch} {E : EE} (hl : l.stackTraces = false) {h : HP} (o6799 : ob h 252 = some (.inr (10, [.ref 253, .ref 254, .ref 255, .ref 272, .ref 273]))) (o6800 : ob h 273 = some (.inl (0, 16, .inl (fun _ => 0)))) (o6822 : ob h 272 = some (.inl (0, 16, .inl (fun _ => 0)))) (o6823 : ob h 255 = some (.inl (5, 16, .inr (.inr (.inr (.inr (fun i => if i < 16 then some (255 + 1 + i) else none))))))) (o6824 : ob h 258 = some (.inl (0, 280, .inl (fun _ => 0)))) : en_C l E M_X7_addSigned 2 0 0 [.ref 252, .int (Int32.ofInt 2), .int (Int32.ofInt 0), .int (Int32.ofInt 1), .int (Int32.ofInt (-1))] h (pF none [258, 272, 273] h (fun h' => ob h' 258 = some (.inl (0, 280, .inl (fun _ => 0))) ∧ ob h' 272 = some (.inl (0, 16, .inl (fun _ => 0))) ∧ ob h' 273 = some (.inl (0, 16, .inl (fun _ => 0))) ∧ True)) := by
  refine en_mk m_X7_addSigned rfl hl (Nat.le_of_ble_eq_true rfl) ?_
  refine x_aload_n (M := M_X7_addSigned) dX7_addSigned_0 rfl ?_
  refine x_getf (M := M_X7_addSigned) (ci := 10) (C := RX7) (T := TX7) (N := 5) (ty := tyX7) cl10 dX7_addSigned_1 o6799 4 (by decide) t_551 (v := .ref 273) rfl ?_
  refine x_iload_n (M := M_X7_addSigned) dX7_addSigned_4 rfl ?_
  refine x_iald (M := M_X7_addSigned) dX7_addSigned_5 o6800 (vp_inD (by decide +kernel)) ?_
  refine x_top (M := M_X7_addSigned) (y := (Int32.ofInt 0)) (by decide +kernel) ?_
  refine x_iload (M := M_X7_addSigned) dX7_addSigned_6 rfl ?_
  refine x_imul (M := M_X7_addSigned) dX7_addSigned_8 ?_
  refine x_top (M := M_X7_addSigned) (y := (Int32.ofInt 0)) (by decide +kernel) ?_
  refine x_istore (M := M_X7_addSigned) dX7_addSigned_9 (Nat.le_of_ble_eq_true rfl) rfl ?_
  refine x_aload_n (M := M_X7_addSigned) dX7_addSigned_11 rfl ?_
  refine x_getf (M := M_X7_addSigned) (ci := 10) (C := RX7) (T := TX7) (N := 5) (ty := tyX7) cl10 dX7_addSigned_12 o6799 4 (by decide) t_551 (v := .ref 273) rfl ?_
  refine x_iload_n (M := M_X7_addSigned) dX7_addSigned_15 rfl ?_
  refine x_iald (M := M_X7_addSigned) dX7_addSigned_16 o6800 (vp_inD (by decide +kernel)) ?_
  refine x_top (M := M_X7_addSigned) (y := (Int32.ofInt 0)) (by decide +kernel) ?_
  refine x_iload (M := M_X7_addSigned) dX7_addSigned_17 rfl ?_
  refine x_imul (M := M_X7_addSigned) dX7_addSigned_19 ?_
  refine x_if_lt (M := M_X7_addSigned) (tgt := 64) dX7_addSigned_20 (by decide) (fun q => absurd q (by decide +kernel)) (fun _ => ?_)
  refine x_aload_n (M := M_X7_addSigned) dX7_addSigned_23 rfl ?_
  refine x_getf (M := M_X7_addSigned) (ci := 10) (C := RX7) (T := TX7) (N := 5) (ty := tyX7) cl10 dX7_addSigned_24 o6799 4 (by decide) t_551 (v := .ref 273) rfl ?_
  refine x_iload_n (M := M_X7_addSigned) dX7_addSigned_27 rfl ?_
  refine x_iald (M := M_X7_addSigned) dX7_addSigned_28 o6800 (vp_inD (by decide +kernel)) ?_
  refine x_top (M := M_X7_addSigned) (y := (Int32.ofInt 0)) (by decide +kernel) ?_
  refine x_if_eq (M := M_X7_addSigned) (tgt := 41) dX7_addSigned_29 (by decide) (fun _ => ?_) (fun q => absurd q (by decide +kernel))
  refine x_iload (M := M_X7_addSigned) dX7_addSigned_41 rfl ?_
  refine x_istore (M := M_X7_addSigned) dX7_addSigned_43 (Nat.le_of_ble_eq_true rfl) rfl ?_
  refine x_aload_n (M := M_X7_addSigned) dX7_addSigned_45 rfl ?_
  refine x_iload_n (M := M_X7_addSigned) dX7_addSigned_46 rfl ?_
  refine x_iload_n (M := M_X7_addSigned) dX7_addSigned_47 rfl ?_
  refine x_iload_n (M := M_X7_addSigned) dX7_addSigned_48 rfl ?_
  refine x_iconst (M := M_X7_addSigned) dX7_addSigned_49 ?_
  refine y_callVR (M := M_X7_addSigned) (M' := M_X7_addLimbs) rfl rfl dX7_addSigned_50 m_X7_addLimbs t_2347 t_2349 s_152 (q6821 hl o6799 o6822 o6823 o6824) rfl rfl o6799 rfl (Nat.le_of_ble_eq_true rfl) (Nat.le_of_ble_eq_true rfl) (Nat.le_of_ble_eq_true rfl) (Nat.le_of_ble_eq_true rfl) (fun h6825 f6826 w6827 => ?_)
  obtain ⟨o6828, o6829, -⟩ := w6827
  refine x_aload_n (M := M_X7_addSigned) dX7_addSigned_53 rfl ?_
  have o6830 := (f6826 252 _ (by decide) o6799)
  refine x_getf (M := M_X7_addSigned) (ci := 10) (C := RX7) (T := TX7) (N := 5) (ty := tyX7) cl10 dX7_addSigned_54 o6830 4 (by decide) t_551 (v := .ref 273) rfl ?_
  refine x_iload_n (M := M_X7_addSigned) dX7_addSigned_57 rfl ?_
  refine x_iload (M := M_X7_addSigned) dX7_addSigned_58 rfl ?_
  have o6831 := (f6826 273 _ (by decide) o6800)
  refine y_iast (M := M_X7_addSigned) (k := 2) dX7_addSigned_60 o6831 (vp_inD (by decide +kernel)) (by decide +kernel) (fun h6832 w6833 f6834 => ?_)
  have w6835 : ob h6832 273 = some (.inl (0, 16, .inl (fun _ => 0))) := by rw [w6833, up_z (k := 2)]
  refine x_goto (M := M_X7_addSigned) (tgt := 112) dX7_addSigned_61 (by decide) ?_
  refine x_aload_n (M := M_X7_addSigned) dX7_addSigned_112 rfl ?_
  refine x_iload_n (M := M_X7_addSigned) dX7_addSigned_113 rfl ?_
  have o6853 := (f6834 252 _ (by decide) o6830)
  have o6854 := (f6834 272 _ (by decide) o6829)
  have o6855 := (f6834 255 _ (by decide) (f6826 255 _ (by decide) o6823))
  have o6856 := (f6834 258 _ (by decide) o6828)
  refine y_callVR (M := M_X7_addSigned) (M' := M_X7_trim) rfl rfl dX7_addSigned_114 m_X7_trim t_2339 t_2341 s_150 (q6852 hl o6853 o6854 o6855 o6856 w6835) rfl rfl o6853 rfl (Nat.le_of_ble_eq_true rfl) (Nat.le_of_ble_eq_true rfl) (Nat.le_of_ble_eq_true rfl) (Nat.le_of_ble_eq_true rfl) (fun h6857 f6858 w6859 => ?_)
  obtain ⟨o6860, o6861, -⟩ := w6859
  have o6862 := (f6858 258 _ (by decide) o6856)
  exact x_vret (M := M_X7_addSigned) dX7_addSigned_117 rfl ⟨rfl, (fr_tr f6858 (by decide) (fr_tr f6834 (by decide) (fr_tr f6826 (by decide) fr_rf))), ⟨o6862, o6860, o6861, trivial⟩⟩ (Nat.le_of_ble_eq_true rfl) (Nat.le_of_ble_eq_true rfl)
set_option maxRecDepth 10000 in
theorem q6876 {l : Launch} {E : EE} (hl : l.stackTraces = false) {h : HP} (o6685 : ob h 252 = some (.inr (10, [.ref 253, .ref 254, .ref 255, .ref 272, .ref 273]))) (o6686 : ob h 255 = some (.inl (5, 16, .inr (.inr (.inr (.inr (fun i => if i < 16 then some (255 + 1 + i) else none))))))) (o6687 : ob h 256 = some (.inl (0, 280, .inl (fun _ => 0)))) (o6688 : ob h 272 = some (.inl (0, 16, .inl (fun _ => 0)))) (o6689 : ob h 273 = some (.inl (0, 16, .inl (fun _ => 0)))) (o6791 : ob h 257 = some (.inl (0, 280, .inl (fun _ => 0)))) (o6866 : ob h 258 = some (.inl (0, 280, .inl (fun _ => 0)))) : en_C l E M_X7_difference 3 0 0 [.ref 252, .int (Int32.ofInt 2), .long (Int64.ofInt 0), .long (Int64.ofInt 0)] h (pF none [256, 272, 273, 257, 258] h (fun h' => ob h' 256 = some (.inl (0, 280, .inl (fun _ => 0))) ∧ ob h' 272 = some (.inl (0, 16, .inl (fun _ => 0))) ∧ ob h' 273 = some (.inl (0, 16, .inl (fun _ => 0))) ∧ ob h' 257 = some (.inl (0, 280, .inl (fun _ => 0))) ∧ ob h' 258 = some (.inl (0, 280, .inl (fun _ => 0))) ∧ True)) := by
  refine en_mk m_X7_difference rfl hl (Nat.le_of_ble_eq_true rfl) ?_
  refine x_aload_n (M := M_X7_difference) dX7_difference_0 rfl ?_
  refine x_iconst (M := M_X7_difference) dX7_difference_1 ?_
  refine x_lload_n (M := M_X7_difference) dX7_difference_2 rfl ?_
  refine y_callVR (M := M_X7_difference) (M' := M_X7_load) rfl rfl dX7_difference_3 m_X7_load t_2331 t_2333 s_149 (q6684 hl o6685 o6686 o6687 o6688 o6689) rfl rfl o6685 rfl (Nat.le_of_ble_eq_true rfl) (Nat.le_of_ble_eq_true rfl) (Nat.le_of_ble_eq_true rfl) (Nat.le_of_ble_eq_true rfl) (fun h6690 f6691 w6692 => ?_)
  obtain ⟨o6693, o6694, o6695, -⟩ := w6692
  refine x_aload_n (M := M_X7_difference) dX7_difference_6 rfl ?_
  refine x_iconst (M := M_X7_difference) dX7_difference_7 ?_
  refine x_lload (M := M_X7_difference) dX7_difference_8 rfl ?_
  have o6789 := (f6691 252 _ (by decide) o6685)
  have o6790 := (f6691 255 _ (by decide) o6686)
  have o6792 := (f6691 257 _ (by decide) o6791)
  refine y_callVR (M := M_X7_difference) (M' := M_X7_load) rfl rfl dX7_difference_10 m_X7_load t_2331 t_2333 s_149 (q6788 hl o6789 o6790 o6792 o6694 o6695) rfl rfl o6789 rfl (Nat.le_of_ble_eq_true rfl) (Nat.le_of_ble_eq_true rfl) (Nat.le_of_ble_eq_true rfl) (Nat.le_of_ble_eq_true rfl) (fun h6793 f6794 w6795 => ?_)
  obtain ⟨o6796, o6797, o6798, -⟩ := w6795
  refine x_aload_n (M := M_X7_difference) dX7_difference_13 rfl ?_
  refine x_iload_n (M := M_X7_difference) dX7_difference_14 rfl ?_
  refine x_iconst (M := M_X7_difference) dX7_difference_15 ?_
  refine x_iconst (M := M_X7_difference) dX7_difference_16 ?_
  refine x_iconst (M := M_X7_difference) dX7_difference_17 ?_
  have o6864 := (f6794 252 _ (by decide) o6789)
  have o6865 := (f6794 255 _ (by decide) o6790)
  have o6867 := (f6794 258 _ (by decide) (f6691 258 _ (by decide) o6866))
  refine y_callVR (M := M_X7_difference) (M' := M_X7_addSigned) rfl rfl dX7_difference_18 m_X7_addSigned t_2343 t_2345 s_151 (q6863 hl o6864 o6798 o6797 o6865 o6867) rfl rfl o6864 rfl (Nat.le_of_ble_eq_true rfl) (Nat.le_of_ble_eq_true rfl) (Nat.le_of_ble_eq_true rfl) (Nat.le_of_ble_eq_true rfl) (fun h6868 f6869 w6870 => ?_)
  obtain ⟨o6871, o6872, o6873, -⟩ := w6870
  have o6874 := (f6869 256 _ (by decide) (f6794 256 _ (by decide) o6693))
  have o6875 := (f6869 257 _ (by decide) o6796)
  exact x_vret (M := M_X7_difference) dX7_difference_21 rfl ⟨rfl, (fr_tr f6869 (by decide) (fr_tr f6794 (by decide) (fr_tr f6691 (by decide) fr_rf))), ⟨o6874, o6872, o6873, o6875, o6871, trivial⟩⟩ (Nat.le_of_ble_eq_true rfl) (Nat.le_of_ble_eq_true rfl)
set_option maxRecDepth 10000 in
theorem q6931 {l : Launch} {E : EE} (hl : l.stackTraces = false) {h : HP} (o6917 : ob h 252 = some (.inr (10, [.ref 253, .ref 254, .ref 255, .ref 272, .ref 273]))) (o6918 : ob h 272 = some (.inl (0, 16, .inl (fun _ => 0)))) (o6919 : ob h 255 = some (.inl (5, 16, .inr (.inr (.inr (.inr (fun i => if i < 16 then some (255 + 1 + i) else none))))))) (o6920 : ob h 259 = some (.inl (0, 280, .inl (fun _ => 0)))) : en_C l E M_X7_addLimbs 1 0 0 [.ref 252, .int (Int32.ofInt 3), .int (Int32.ofInt 0), .int (Int32.ofInt 1), .int (Int32.ofInt 1)] h (pF none [259, 272] h (fun h' => ob h' 259 = some (.inl (0, 280, .inl (fun _ => 0))) ∧ ob h' 272 = some (.inl (0, 16, .inl (upd (fun _ => 0) 3 (Int32.ofInt 1)))) ∧ True)) := by
  refine en_mk m_X7_addLimbs rfl hl (Nat.le_of_ble_eq_true rfl) ?_
  refine x_aload_n (M := M_X7_addLimbs) dX7_addLimbs_0 rfl ?_
  refine x_getf (M := M_X7_addLimbs) (ci := 10) (C := RX7) (T := TX7) (N := 5) (ty := tyX7) cl10 dX7_addLimbs_1 o6917 3 (by decide) t_550 (v := .ref 272) rfl ?_
  refine x_iload_n (M := M_X7_addLimbs) dX7_addLimbs_4 rfl ?_
  refine x_iald (M := M_X7_addLimbs) dX7_addLimbs_5 o6918 (vp_inD (by decide +kernel)) ?_
  refine x_top (M := M_X7_addLimbs) (y := (Int32.ofInt 0)) (by decide +kernel) ?_
  refine x_aload_n (M := M_X7_addLimbs) dX7_addLimbs_6 rfl ?_
  refine x_getf (M := M_X7_addLimbs) (ci := 10) (C := RX7) (T := TX7) (N := 5) (ty := tyX7) cl10 dX7_addLimbs_7 o6917 3 (by decide) t_550 (v := .ref 272) rfl ?_
  refine x_iload_n (M := M_X7_addLimbs) dX7_addLimbs_10 rfl ?_
  refine x_iald (M := M_X7_addLimbs) dX7_addLimbs_11 o6918 (vp_inD (by decide +kernel)) ?_
  refine x_top (M := M_X7_addLimbs) (y := (Int32.ofInt 0)) (by decide +kernel) ?_
  refine x_mmax (M := M_X7_addLimbs) dX7_addLimbs_12 t_2336 t_1013 t_20 t_1014 (Nat.le_of_ble_eq_true rfl) (Nat.le_of_ble_eq_true rfl) (Nat.le_of_ble_eq_true rfl) (Nat.le_of_ble_eq_true rfl) ?_
  refine x_top (M := M_X7_addLimbs) (y := (Int32.ofInt 0)) (by decide +kernel) ?_
  refine x_iconst (M := M_X7_addLimbs) dX7_addLimbs_15 ?_
  refine x_iadd (M := M_X7_addLimbs) dX7_addLimbs_16 ?_
  refine x_sipush (M := M_X7_addLimbs) dX7_addLimbs_17 ?_
  refine x_mmin (M := M_X7_addLimbs) dX7_addLimbs_20 t_2351 t_626 t_20 t_627 (Nat.le_of_ble_eq_true rfl) (Nat.le_of_ble_eq_true rfl) (Nat.le_of_ble_eq_true rfl) (Nat.le_of_ble_eq_true rfl) ?_
  refine x_top (M := M_X7_addLimbs) (y := (Int32.ofInt 1)) (by decide +kernel) ?_
  refine x_istore (M := M_X7_addLimbs) dX7_addLimbs_23 (Nat.le_of_ble_eq_true rfl) rfl ?_
  refine x_lconst (M := M_X7_addLimbs) dX7_addLimbs_25 ?_
  refine x_topl (M := M_X7_addLimbs) (y := (Int64.ofInt 0)) (by decide +kernel) ?_
  refine x_lstore (M := M_X7_addLimbs) dX7_addLimbs_26 (Nat.le_of_ble_eq_true rfl) rfl ?_
  refine x_iconst (M := M_X7_addLimbs) dX7_addLimbs_28 ?_
  refine x_istore (M := M_X7_addLimbs) dX7_addLimbs_29 (Nat.le_of_ble_eq_true rfl) rfl ?_
  refine x_iload (M := M_X7_addLimbs) dX7_addLimbs_31 rfl ?_
  refine x_iload (M := M_X7_addLimbs) dX7_addLimbs_33 rfl ?_
  refine x_icmp_ge (M := M_X7_addLimbs) (tgt := 87) dX7_addLimbs_35 (by decide) (fun q => absurd q (by decide +kernel)) (fun _ => ?_)
  refine x_aload_n (M := M_X7_addLimbs) dX7_addLimbs_38 rfl ?_
  refine x_iload_n (M := M_X7_addLimbs) dX7_addLimbs_39 rfl ?_
  refine x_iload (M := M_X7_addLimbs) dX7_addLimbs_40 rfl ?_
  refine x_callVR (M := M_X7_addLimbs) (M' := M_X7_limbAt) rfl rfl dX7_addLimbs_42 m_X7_limbAt t_2352 t_2354 s_153 (q6805 hl o6917 o6918) rfl rfl o6917 rfl (Nat.le_of_ble_eq_true rfl) (Nat.le_of_ble_eq_true rfl) (Nat.le_of_ble_eq_true rfl) (Nat.le_of_ble_eq_true rfl) ?_
  refine x_iload (M := M_X7_addLimbs) dX7_addLimbs_45 rfl ?_
  refine x_i2l (M := M_X7_addLimbs) dX7_addLimbs_47 ?_
  refine x_aload_n (M := M_X7_addLimbs) dX7_addLimbs_48 rfl ?_
  refine x_iload_n (M := M_X7_addLimbs) dX7_addLimbs_49 rfl ?_
  refine x_iload (M := M_X7_addLimbs) dX7_addLimbs_50 rfl ?_
  refine x_callVR (M := M_X7_addLimbs) (M' := M_X7_limbAt) rfl rfl dX7_addLimbs_52 m_X7_limbAt t_2352 t_2354 s_153 (q6808 hl o6917 o6918) rfl rfl o6917 rfl (Nat.le_of_ble_eq_true rfl) (Nat.le_of_ble_eq_true rfl) (Nat.le_of_ble_eq_true rfl) (Nat.le_of_ble_eq_true rfl) ?_
  refine x_lmul (M := M_X7_addLimbs) dX7_addLimbs_55 ?_
  refine x_ladd (M := M_X7_addLimbs) dX7_addLimbs_56 ?_
  refine x_lload (M := M_X7_addLimbs) dX7_addLimbs_57 rfl ?_
  refine x_ladd (M := M_X7_addLimbs) dX7_addLimbs_59 ?_
  refine x_topl (M := M_X7_addLimbs) (y := (Int64.ofInt 0)) (by decide +kernel) ?_
  refine x_lstore (M := M_X7_addLimbs) dX7_addLimbs_60 (Nat.le_of_ble_eq_true rfl) rfl ?_
  refine x_aload_n (M := M_X7_addLimbs) dX7_addLimbs_62 rfl ?_
  refine x_getf (M := M_X7_addLimbs) (ci := 10) (C := RX7) (T := TX7) (N := 5) (ty := tyX7) cl10 dX7_addLimbs_63 o6917 2 (by decide) t_549 (v := .ref 255) rfl ?_
  refine x_iload_n (M := M_X7_addLimbs) dX7_addLimbs_66 rfl ?_
  refine x_gald (M := M_X7_addLimbs) (b := 259) dX7_addLimbs_67 o6919 (vp_inD (by decide +kernel)) (by decide +kernel) ?_
  refine x_iload (M := M_X7_addLimbs) dX7_addLimbs_68 rfl ?_
  refine x_lload (M := M_X7_addLimbs) dX7_addLimbs_70 rfl ?_
  refine x_l2i (M := M_X7_addLimbs) dX7_addLimbs_72 ?_
  refine x_norm (M := M_X7_addLimbs) (st' := [.int (Int32.ofInt 0), .int (Int32.ofInt 0), .ref 259]) rfl (vi_cons (by decide +kernel : ((Int64.ofInt 0).toInt32) = (Int32.ofInt 0)) rfl) rfl rfl rfl ?_
  refine y_iast (M := M_X7_addLimbs) (k := 0) dX7_addLimbs_73 o6920 (vp_inD (by decide +kernel)) (by decide +kernel) (fun h6921 w6922 f6923 => ?_)
  have w6924 : ob h6921 259 = some (.inl (0, 280, .inl (fun _ => 0))) := by rw [w6922, up_z (k := 0)]
  refine x_lload (M := M_X7_addLimbs) dX7_addLimbs_74 rfl ?_
  refine x_bipush (M := M_X7_addLimbs) dX7_addLimbs_76 ?_
  refine x_lshr (M := M_X7_addLimbs) dX7_addLimbs_78 ?_
  refine x_topl (M := M_X7_addLimbs) (y := (Int64.ofInt 0)) (by decide +kernel) ?_
  refine x_lstore (M := M_X7_addLimbs) dX7_addLimbs_79 (Nat.le_of_ble_eq_true rfl) rfl ?_
  refine x_lvs (M := M_X7_addLimbs) (lv' := [some (.ref 252), some (.int (Int32.ofInt 3)), some (.int (Int32.ofInt 0)), some (.int (Int32.ofInt 1)), some (.int (Int32.ofInt 1)), some (.int (Int32.ofInt 1)), some (.long (Int64.ofInt 0)), none, some (.int (Int32.ofInt 0)), some (.long (Int64.ofInt 0)), none]) rfl ?_
  refine x_iinc (M := M_X7_addLimbs) dX7_addLimbs_81 rfl (Nat.le_of_ble_eq_true rfl) rfl ?_
  refine x_lvs (M := M_X7_addLimbs) (lv' := [some (.ref 252), some (.int (Int32.ofInt 3)), some (.int (Int32.ofInt 0)), some (.int (Int32.ofInt 1)), some (.int (Int32.ofInt 1)), some (.int (Int32.ofInt 1)), some (.long (Int64.ofInt 0)), none, some (.int (Int32.ofInt 1)), some (.long (Int64.ofInt 0)), none]) (by rw [(by decide +kernel : (Int32.ofInt 0) + Int32.ofInt 1 = (Int32.ofInt 1))] <;> rfl) ?_
  refine x_goto (M := M_X7_addLimbs) (tgt := 31) dX7_addLimbs_84 (by decide) ?_
  refine x_iload (M := M_X7_addLimbs) dX7_addLimbs_31 rfl ?_
  refine x_iload (M := M_X7_addLimbs) dX7_addLimbs_33 rfl ?_
  refine x_icmp_ge (M := M_X7_addLimbs) (tgt := 87) dX7_addLimbs_35 (by decide) (fun _ => ?_) (fun q => absurd q (by decide +kernel))
  refine x_aload_n (M := M_X7_addLimbs) dX7_addLimbs_87 rfl ?_
  have o6925 := (f6923 252 _ (by decide) o6917)
  refine x_getf (M := M_X7_addLimbs) (ci := 10) (C := RX7) (T := TX7) (N := 5) (ty := tyX7) cl10 dX7_addLimbs_88 o6925 3 (by decide) t_550 (v := .ref 272) rfl ?_
  refine x_iload_n (M := M_X7_addLimbs) dX7_addLimbs_91 rfl ?_
  refine x_iload (M := M_X7_addLimbs) dX7_addLimbs_92 rfl ?_
  have o6926 := (f6923 272 _ (by decide) o6918)
  refine y_iast (M := M_X7_addLimbs) (k := 3) dX7_addLimbs_94 o6926 (vp_inD (by decide +kernel)) (by decide +kernel) (fun h6927 w6928 f6929 => ?_)
  have o6930 := (f6929 259 _ (by decide) w6924)
  exact x_vret (M := M_X7_addLimbs) dX7_addLimbs_95 rfl ⟨rfl, (fr_tr f6929 (by decide) (fr_tr f6923 (by decide) fr_rf)), ⟨o6930, w6928, trivial⟩⟩ (Nat.le_of_ble_eq_true rfl) (Nat.le_of_ble_eq_true rfl)
set_option maxRecDepth 10000 in
theorem q6962 {l : Launch} {E : EE} (hl : l.stackTraces = false) {h : HP} (o6946 : ob h 252 = some (.inr (10, [.ref 253, .ref 254, .ref 255, .ref 272, .ref 273]))) (o6947 : ob h 272 = some (.inl (0, 16, .inl (upd (fun _ => 0) 3 (Int32.ofInt 1))))) (o6948 : ob h 255 = some (.inl (5, 16, .inr (.inr (.inr (.inr (fun i => if i < 16 then some (255 + 1 + i) else none))))))) (o6949 : ob h 259 = some (.inl (0, 280, .inl (fun _ => 0)))) (o6955 : ob h 273 = some (.inl (0, 16, .inl (fun _ => 0)))) : en_C l E M_X7_trim 0 0 0 [.ref 252, .int (Int32.ofInt 3)] h (pF none [272, 273] h (fun h' => ob h' 272 = some (.inl (0, 16, .inl (fun _ => 0))) ∧ ob h' 273 = some (.inl (0, 16, .inl (fun _ => 0))) ∧ True)) := by
  refine en_mk m_X7_trim rfl hl (Nat.le_of_ble_eq_true rfl) ?_
  refine x_aload_n (M := M_X7_trim) dX7_trim_0 rfl ?_
  refine x_getf (M := M_X7_trim) (ci := 10) (C := RX7) (T := TX7) (N := 5) (ty := tyX7) cl10 dX7_trim_1 o6946 3 (by decide) t_550 (v := .ref 272) rfl ?_
  refine x_iload_n (M := M_X7_trim) dX7_trim_4 rfl ?_
  refine x_iald (M := M_X7_trim) dX7_trim_5 o6947 (vp_inD (by decide +kernel)) ?_
  refine x_top (M := M_X7_trim) (y := (Int32.ofInt 1)) (by decide +kernel) ?_
  refine x_if_le (M := M_X7_trim) (tgt := 40) dX7_trim_6 (by decide) (fun q => absurd q (by decide +kernel)) (fun _ => ?_)
  refine x_aload_n (M := M_X7_trim) dX7_trim_9 rfl ?_
  refine x_getf (M := M_X7_trim) (ci := 10) (C := RX7) (T := TX7) (N := 5) (ty := tyX7) cl10 dX7_trim_10 o6946 2 (by decide) t_549 (v := .ref 255) rfl ?_
  refine x_iload_n (M := M_X7_trim) dX7_trim_13 rfl ?_
  refine x_gald (M := M_X7_trim) (b := 259) dX7_trim_14 o6948 (vp_inD (by decide +kernel)) (by decide +kernel) ?_
  refine x_aload_n (M := M_X7_trim) dX7_trim_15 rfl ?_
  refine x_getf (M := M_X7_trim) (ci := 10) (C := RX7) (T := TX7) (N := 5) (ty := tyX7) cl10 dX7_trim_16 o6946 3 (by decide) t_550 (v := .ref 272) rfl ?_
  refine x_iload_n (M := M_X7_trim) dX7_trim_19 rfl ?_
  refine x_iald (M := M_X7_trim) dX7_trim_20 o6947 (vp_inD (by decide +kernel)) ?_
  refine x_top (M := M_X7_trim) (y := (Int32.ofInt 1)) (by decide +kernel) ?_
  refine x_iconst (M := M_X7_trim) dX7_trim_21 ?_
  refine x_isub (M := M_X7_trim) dX7_trim_22 ?_
  refine x_iald (M := M_X7_trim) dX7_trim_23 o6949 (vp_inD (by decide +kernel)) ?_
  refine x_top (M := M_X7_trim) (y := (Int32.ofInt 0)) (by decide +kernel) ?_
  refine x_if_ne (M := M_X7_trim) (tgt := 40) dX7_trim_24 (by decide) (fun q => absurd q (by decide +kernel)) (fun _ => ?_)
  refine x_aload_n (M := M_X7_trim) dX7_trim_27 rfl ?_
  refine x_getf (M := M_X7_trim) (ci := 10) (C := RX7) (T := TX7) (N := 5) (ty := tyX7) cl10 dX7_trim_28 o6946 3 (by decide) t_550 (v := .ref 272) rfl ?_
  refine x_iload_n (M := M_X7_trim) dX7_trim_31 rfl ?_
  refine x_dup2 (M := M_X7_trim) dX7_trim_32 rfl rfl ?_
  refine x_iald (M := M_X7_trim) dX7_trim_33 o6947 (vp_inD (by decide +kernel)) ?_
  refine x_top (M := M_X7_trim) (y := (Int32.ofInt 1)) (by decide +kernel) ?_
  refine x_iconst (M := M_X7_trim) dX7_trim_34 ?_
  refine x_isub (M := M_X7_trim) dX7_trim_35 ?_
  refine x_norm (M := M_X7_trim) (st' := [.int (Int32.ofInt 0), .int (Int32.ofInt 3), .ref 272]) rfl (vi_cons (by decide +kernel : ((Int32.ofInt 1) - (Int32.ofInt 1)) = (Int32.ofInt 0)) rfl) rfl rfl rfl ?_
  refine y_iast (M := M_X7_trim) (k := 3) dX7_trim_36 o6947 (vp_inD (by decide +kernel)) (by decide +kernel) (fun h6950 w6951 f6952 => ?_)
  have w6953 : ob h6950 272 = some (.inl (0, 16, .inl (fun _ => 0))) := by rw [w6951, up_up (k := 3), up_z (k := 3)]
  refine x_goto (M := M_X7_trim) (tgt := 0) dX7_trim_37 (by decide) ?_
  refine x_aload_n (M := M_X7_trim) dX7_trim_0 rfl ?_
  have o6954 := (f6952 252 _ (by decide) o6946)
  refine x_getf (M := M_X7_trim) (ci := 10) (C := RX7) (T := TX7) (N := 5) (ty := tyX7) cl10 dX7_trim_1 o6954 3 (by decide) t_550 (v := .ref 272) rfl ?_
  refine x_iload_n (M := M_X7_trim) dX7_trim_4 rfl ?_
  refine x_iald (M := M_X7_trim) dX7_trim_5 w6953 (vp_inD (by decide +kernel)) ?_
  refine x_top (M := M_X7_trim) (y := (Int32.ofInt 0)) (by decide +kernel) ?_
  refine x_if_le (M := M_X7_trim) (tgt := 40) dX7_trim_6 (by decide) (fun _ => ?_) (fun q => absurd q (by decide +kernel))
  refine x_aload_n (M := M_X7_trim) dX7_trim_40 rfl ?_
  refine x_getf (M := M_X7_trim) (ci := 10) (C := RX7) (T := TX7) (N := 5) (ty := tyX7) cl10 dX7_trim_41 o6954 3 (by decide) t_550 (v := .ref 272) rfl ?_
  refine x_iload_n (M := M_X7_trim) dX7_trim_44 rfl ?_
  refine x_iald (M := M_X7_trim) dX7_trim_45 w6953 (vp_inD (by decide +kernel)) ?_
  refine x_top (M := M_X7_trim) (y := (Int32.ofInt 0)) (by decide +kernel) ?_
  refine x_if_ne (M := M_X7_trim) (tgt := 56) dX7_trim_46 (by decide) (fun q => absurd q (by decide +kernel)) (fun _ => ?_)
  refine x_aload_n (M := M_X7_trim) dX7_trim_49 rfl ?_
  refine x_getf (M := M_X7_trim) (ci := 10) (C := RX7) (T := TX7) (N := 5) (ty := tyX7) cl10 dX7_trim_50 o6954 4 (by decide) t_551 (v := .ref 273) rfl ?_
  refine x_iload_n (M := M_X7_trim) dX7_trim_53 rfl ?_
  refine x_iconst (M := M_X7_trim) dX7_trim_54 ?_
  have o6956 := (f6952 273 _ (by decide) o6955)
  refine y_iast (M := M_X7_trim) (k := 3) dX7_trim_55 o6956 (vp_inD (by decide +kernel)) (by decide +kernel) (fun h6957 w6958 f6959 => ?_)
  have w6960 : ob h6957 273 = some (.inl (0, 16, .inl (fun _ => 0))) := by rw [w6958, up_z (k := 3)]
  have o6961 := (f6959 272 _ (by decide) w6953)
  exact x_vret (M := M_X7_trim) dX7_trim_56 rfl ⟨rfl, (fr_tr f6959 (by decide) (fr_tr f6952 (by decide) fr_rf)), ⟨o6961, w6960, trivial⟩⟩ (Nat.le_of_ble_eq_true rfl) (Nat.le_of_ble_eq_true rfl)
set_option maxRecDepth 10000 in
theorem q6973 {l : Launch} {E : EE} (hl : l.stackTraces = false) {h : HP} (o6915 : ob h 252 = some (.inr (10, [.ref 253, .ref 254, .ref 255, .ref 272, .ref 273]))) (o6916 : ob h 273 = some (.inl (0, 16, .inl (fun _ => 0)))) (o6932 : ob h 272 = some (.inl (0, 16, .inl (fun _ => 0)))) (o6933 : ob h 255 = some (.inl (5, 16, .inr (.inr (.inr (.inr (fun i => if i < 16 then some (255 + 1 + i) else none))))))) (o6934 : ob h 259 = some (.inl (0, 280, .inl (fun _ => 0)))) : en_C l E M_X7_addSigned 2 0 0 [.ref 252, .int (Int32.ofInt 3), .int (Int32.ofInt 0), .int (Int32.ofInt 1), .int (Int32.ofInt (-1))] h (pF none [259, 272, 273] h (fun h' => ob h' 259 = some (.inl (0, 280, .inl (fun _ => 0))) ∧ ob h' 272 = some (.inl (0, 16, .inl (fun _ => 0))) ∧ ob h' 273 = some (.inl (0, 16, .inl (fun _ => 0))) ∧ True)) := by
  refine en_mk m_X7_addSigned rfl hl (Nat.le_of_ble_eq_true rfl) ?_
  refine x_aload_n (M := M_X7_addSigned) dX7_addSigned_0 rfl ?_
  refine x_getf (M := M_X7_addSigned) (ci := 10) (C := RX7) (T := TX7) (N := 5) (ty := tyX7) cl10 dX7_addSigned_1 o6915 4 (by decide) t_551 (v := .ref 273) rfl ?_
  refine x_iload_n (M := M_X7_addSigned) dX7_addSigned_4 rfl ?_
  refine x_iald (M := M_X7_addSigned) dX7_addSigned_5 o6916 (vp_inD (by decide +kernel)) ?_
  refine x_top (M := M_X7_addSigned) (y := (Int32.ofInt 0)) (by decide +kernel) ?_
  refine x_iload (M := M_X7_addSigned) dX7_addSigned_6 rfl ?_
  refine x_imul (M := M_X7_addSigned) dX7_addSigned_8 ?_
  refine x_top (M := M_X7_addSigned) (y := (Int32.ofInt 0)) (by decide +kernel) ?_
  refine x_istore (M := M_X7_addSigned) dX7_addSigned_9 (Nat.le_of_ble_eq_true rfl) rfl ?_
  refine x_aload_n (M := M_X7_addSigned) dX7_addSigned_11 rfl ?_
  refine x_getf (M := M_X7_addSigned) (ci := 10) (C := RX7) (T := TX7) (N := 5) (ty := tyX7) cl10 dX7_addSigned_12 o6915 4 (by decide) t_551 (v := .ref 273) rfl ?_
  refine x_iload_n (M := M_X7_addSigned) dX7_addSigned_15 rfl ?_
  refine x_iald (M := M_X7_addSigned) dX7_addSigned_16 o6916 (vp_inD (by decide +kernel)) ?_
  refine x_top (M := M_X7_addSigned) (y := (Int32.ofInt 0)) (by decide +kernel) ?_
  refine x_iload (M := M_X7_addSigned) dX7_addSigned_17 rfl ?_
  refine x_imul (M := M_X7_addSigned) dX7_addSigned_19 ?_
  refine x_if_lt (M := M_X7_addSigned) (tgt := 64) dX7_addSigned_20 (by decide) (fun q => absurd q (by decide +kernel)) (fun _ => ?_)
  refine x_aload_n (M := M_X7_addSigned) dX7_addSigned_23 rfl ?_
  refine x_getf (M := M_X7_addSigned) (ci := 10) (C := RX7) (T := TX7) (N := 5) (ty := tyX7) cl10 dX7_addSigned_24 o6915 4 (by decide) t_551 (v := .ref 273) rfl ?_
  refine x_iload_n (M := M_X7_addSigned) dX7_addSigned_27 rfl ?_
  refine x_iald (M := M_X7_addSigned) dX7_addSigned_28 o6916 (vp_inD (by decide +kernel)) ?_
  refine x_top (M := M_X7_addSigned) (y := (Int32.ofInt 0)) (by decide +kernel) ?_
  refine x_if_eq (M := M_X7_addSigned) (tgt := 41) dX7_addSigned_29 (by decide) (fun _ => ?_) (fun q => absurd q (by decide +kernel))
  refine x_iload (M := M_X7_addSigned) dX7_addSigned_41 rfl ?_
  refine x_istore (M := M_X7_addSigned) dX7_addSigned_43 (Nat.le_of_ble_eq_true rfl) rfl ?_
  refine x_aload_n (M := M_X7_addSigned) dX7_addSigned_45 rfl ?_
  refine x_iload_n (M := M_X7_addSigned) dX7_addSigned_46 rfl ?_
  refine x_iload_n (M := M_X7_addSigned) dX7_addSigned_47 rfl ?_
  refine x_iload_n (M := M_X7_addSigned) dX7_addSigned_48 rfl ?_
  refine x_iconst (M := M_X7_addSigned) dX7_addSigned_49 ?_
  refine y_callVR (M := M_X7_addSigned) (M' := M_X7_addLimbs) rfl rfl dX7_addSigned_50 m_X7_addLimbs t_2347 t_2349 s_152 (q6931 hl o6915 o6932 o6933 o6934) rfl rfl o6915 rfl (Nat.le_of_ble_eq_true rfl) (Nat.le_of_ble_eq_true rfl) (Nat.le_of_ble_eq_true rfl) (Nat.le_of_ble_eq_true rfl) (fun h6935 f6936 w6937 => ?_)
  obtain ⟨o6938, o6939, -⟩ := w6937
  refine x_aload_n (M := M_X7_addSigned) dX7_addSigned_53 rfl ?_
  have o6940 := (f6936 252 _ (by decide) o6915)
  refine x_getf (M := M_X7_addSigned) (ci := 10) (C := RX7) (T := TX7) (N := 5) (ty := tyX7) cl10 dX7_addSigned_54 o6940 4 (by decide) t_551 (v := .ref 273) rfl ?_
  refine x_iload_n (M := M_X7_addSigned) dX7_addSigned_57 rfl ?_
  refine x_iload (M := M_X7_addSigned) dX7_addSigned_58 rfl ?_
  have o6941 := (f6936 273 _ (by decide) o6916)
  refine y_iast (M := M_X7_addSigned) (k := 3) dX7_addSigned_60 o6941 (vp_inD (by decide +kernel)) (by decide +kernel) (fun h6942 w6943 f6944 => ?_)
  have w6945 : ob h6942 273 = some (.inl (0, 16, .inl (fun _ => 0))) := by rw [w6943, up_z (k := 3)]
  refine x_goto (M := M_X7_addSigned) (tgt := 112) dX7_addSigned_61 (by decide) ?_
  refine x_aload_n (M := M_X7_addSigned) dX7_addSigned_112 rfl ?_
  refine x_iload_n (M := M_X7_addSigned) dX7_addSigned_113 rfl ?_
  have o6963 := (f6944 252 _ (by decide) o6940)
  have o6964 := (f6944 272 _ (by decide) o6939)
  have o6965 := (f6944 255 _ (by decide) (f6936 255 _ (by decide) o6933))
  have o6966 := (f6944 259 _ (by decide) o6938)
  refine y_callVR (M := M_X7_addSigned) (M' := M_X7_trim) rfl rfl dX7_addSigned_114 m_X7_trim t_2339 t_2341 s_150 (q6962 hl o6963 o6964 o6965 o6966 w6945) rfl rfl o6963 rfl (Nat.le_of_ble_eq_true rfl) (Nat.le_of_ble_eq_true rfl) (Nat.le_of_ble_eq_true rfl) (Nat.le_of_ble_eq_true rfl) (fun h6967 f6968 w6969 => ?_)
  obtain ⟨o6970, o6971, -⟩ := w6969
  have o6972 := (f6968 259 _ (by decide) o6966)
  exact x_vret (M := M_X7_addSigned) dX7_addSigned_117 rfl ⟨rfl, (fr_tr f6968 (by decide) (fr_tr f6944 (by decide) (fr_tr f6936 (by decide) fr_rf))), ⟨o6972, o6970, o6971, trivial⟩⟩ (Nat.le_of_ble_eq_true rfl) (Nat.le_of_ble_eq_true rfl)
set_option maxRecDepth 10000 in
theorem q6986 {l : Launch} {E : EE} (hl : l.stackTraces = false) {h : HP} (o6894 : ob h 252 = some (.inr (10, [.ref 253, .ref 254, .ref 255, .ref 272, .ref 273]))) (o6895 : ob h 255 = some (.inl (5, 16, .inr (.inr (.inr (.inr (fun i => if i < 16 then some (255 + 1 + i) else none))))))) (o6896 : ob h 256 = some (.inl (0, 280, .inl (fun _ => 0)))) (o6897 : ob h 272 = some (.inl (0, 16, .inl (fun _ => 0)))) (o6898 : ob h 273 = some (.inl (0, 16, .inl (fun _ => 0)))) (o6907 : ob h 257 = some (.inl (0, 280, .inl (fun _ => 0)))) (o6976 : ob h 259 = some (.inl (0, 280, .inl (fun _ => 0)))) : en_C l E M_X7_difference 3 0 0 [.ref 252, .int (Int32.ofInt 3), .long (Int64.ofInt 0), .long (Int64.ofInt 0)] h (pF none [256, 272, 273, 257, 259] h (fun h' => ob h' 256 = some (.inl (0, 280, .inl (fun _ => 0))) ∧ ob h' 272 = some (.inl (0, 16, .inl (fun _ => 0))) ∧ ob h' 273 = some (.inl (0, 16, .inl (fun _ => 0))) ∧ ob h' 257 = some (.inl (0, 280, .inl (fun _ => 0))) ∧ ob h' 259 = some (.inl (0, 280, .inl (fun _ => 0))) ∧ True)) := by
  refine en_mk m_X7_difference rfl hl (Nat.le_of_ble_eq_true rfl) ?_
  refine x_aload_n (M := M_X7_difference) dX7_difference_0 rfl ?_
  refine x_iconst (M := M_X7_difference) dX7_difference_1 ?_
  refine x_lload_n (M := M_X7_difference) dX7_difference_2 rfl ?_
  refine y_callVR (M := M_X7_difference) (M' := M_X7_load) rfl rfl dX7_difference_3 m_X7_load t_2331 t_2333 s_149 (q6684 hl o6894 o6895 o6896 o6897 o6898) rfl rfl o6894 rfl (Nat.le_of_ble_eq_true rfl) (Nat.le_of_ble_eq_true rfl) (Nat.le_of_ble_eq_true rfl) (Nat.le_of_ble_eq_true rfl) (fun h6899 f6900 w6901 => ?_)
  obtain ⟨o6902, o6903, o6904, -⟩ := w6901
  refine x_aload_n (M := M_X7_difference) dX7_difference_6 rfl ?_
  refine x_iconst (M := M_X7_difference) dX7_difference_7 ?_
  refine x_lload (M := M_X7_difference) dX7_difference_8 rfl ?_
  have o6905 := (f6900 252 _ (by decide) o6894)
  have o6906 := (f6900 255 _ (by decide) o6895)
  have o6908 := (f6900 257 _ (by decide) o6907)
  refine y_callVR (M := M_X7_difference) (M' := M_X7_load) rfl rfl dX7_difference_10 m_X7_load t_2331 t_2333 s_149 (q6788 hl o6905 o6906 o6908 o6903 o6904) rfl rfl o6905 rfl (Nat.le_of_ble_eq_true rfl) (Nat.le_of_ble_eq_true rfl) (Nat.le_of_ble_eq_true rfl) (Nat.le_of_ble_eq_true rfl) (fun h6909 f6910 w6911 => ?_)
  obtain ⟨o6912, o6913, o6914, -⟩ := w6911
  refine x_aload_n (M := M_X7_difference) dX7_difference_13 rfl ?_
  refine x_iload_n (M := M_X7_difference) dX7_difference_14 rfl ?_
  refine x_iconst (M := M_X7_difference) dX7_difference_15 ?_
  refine x_iconst (M := M_X7_difference) dX7_difference_16 ?_
  refine x_iconst (M := M_X7_difference) dX7_difference_17 ?_
  have o6974 := (f6910 252 _ (by decide) o6905)
  have o6975 := (f6910 255 _ (by decide) o6906)
  have o6977 := (f6910 259 _ (by decide) (f6900 259 _ (by decide) o6976))
  refine y_callVR (M := M_X7_difference) (M' := M_X7_addSigned) rfl rfl dX7_difference_18 m_X7_addSigned t_2343 t_2345 s_151 (q6973 hl o6974 o6914 o6913 o6975 o6977) rfl rfl o6974 rfl (Nat.le_of_ble_eq_true rfl) (Nat.le_of_ble_eq_true rfl) (Nat.le_of_ble_eq_true rfl) (Nat.le_of_ble_eq_true rfl) (fun h6978 f6979 w6980 => ?_)
  obtain ⟨o6981, o6982, o6983, -⟩ := w6980
  have o6984 := (f6979 256 _ (by decide) (f6910 256 _ (by decide) o6902))
  have o6985 := (f6979 257 _ (by decide) o6912)
  exact x_vret (M := M_X7_difference) dX7_difference_21 rfl ⟨rfl, (fr_tr f6979 (by decide) (fr_tr f6910 (by decide) (fr_tr f6900 (by decide) fr_rf))), ⟨o6984, o6982, o6983, o6985, o6981, trivial⟩⟩ (Nat.le_of_ble_eq_true rfl) (Nat.le_of_ble_eq_true rfl)
set_option maxRecDepth 10000 in
theorem q7037 {l : Launch} {E : EE} (hl : l.stackTraces = false) {h : HP} (o7023 : ob h 252 = some (.inr (10, [.ref 253, .ref 254, .ref 255, .ref 272, .ref 273]))) (o7024 : ob h 272 = some (.inl (0, 16, .inl (fun _ => 0)))) (o7025 : ob h 255 = some (.inl (5, 16, .inr (.inr (.inr (.inr (fun i => if i < 16 then some (255 + 1 + i) else none))))))) (o7026 : ob h 260 = some (.inl (0, 280, .inl (fun _ => 0)))) : en_C l E M_X7_addLimbs 1 0 0 [.ref 252, .int (Int32.ofInt 4), .int (Int32.ofInt 0), .int (Int32.ofInt 1), .int (Int32.ofInt 1)] h (pF none [260, 272] h (fun h' => ob h' 260 = some (.inl (0, 280, .inl (fun _ => 0))) ∧ ob h' 272 = some (.inl (0, 16, .inl (upd (fun _ => 0) 4 (Int32.ofInt 1)))) ∧ True)) := by
  refine en_mk m_X7_addLimbs rfl hl (Nat.le_of_ble_eq_true rfl) ?_
  refine x_aload_n (M := M_X7_addLimbs) dX7_addLimbs_0 rfl ?_
  refine x_getf (M := M_X7_addLimbs) (ci := 10) (C := RX7) (T := TX7) (N := 5) (ty := tyX7) cl10 dX7_addLimbs_1 o7023 3 (by decide) t_550 (v := .ref 272) rfl ?_
  refine x_iload_n (M := M_X7_addLimbs) dX7_addLimbs_4 rfl ?_
  refine x_iald (M := M_X7_addLimbs) dX7_addLimbs_5 o7024 (vp_inD (by decide +kernel)) ?_
  refine x_top (M := M_X7_addLimbs) (y := (Int32.ofInt 0)) (by decide +kernel) ?_
  refine x_aload_n (M := M_X7_addLimbs) dX7_addLimbs_6 rfl ?_
  refine x_getf (M := M_X7_addLimbs) (ci := 10) (C := RX7) (T := TX7) (N := 5) (ty := tyX7) cl10 dX7_addLimbs_7 o7023 3 (by decide) t_550 (v := .ref 272) rfl ?_
  refine x_iload_n (M := M_X7_addLimbs) dX7_addLimbs_10 rfl ?_
  refine x_iald (M := M_X7_addLimbs) dX7_addLimbs_11 o7024 (vp_inD (by decide +kernel)) ?_
  refine x_top (M := M_X7_addLimbs) (y := (Int32.ofInt 0)) (by decide +kernel) ?_
  refine x_mmax (M := M_X7_addLimbs) dX7_addLimbs_12 t_2336 t_1013 t_20 t_1014 (Nat.le_of_ble_eq_true rfl) (Nat.le_of_ble_eq_true rfl) (Nat.le_of_ble_eq_true rfl) (Nat.le_of_ble_eq_true rfl) ?_
  refine x_top (M := M_X7_addLimbs) (y := (Int32.ofInt 0)) (by decide +kernel) ?_
  refine x_iconst (M := M_X7_addLimbs) dX7_addLimbs_15 ?_
  refine x_iadd (M := M_X7_addLimbs) dX7_addLimbs_16 ?_
  refine x_sipush (M := M_X7_addLimbs) dX7_addLimbs_17 ?_
  refine x_mmin (M := M_X7_addLimbs) dX7_addLimbs_20 t_2351 t_626 t_20 t_627 (Nat.le_of_ble_eq_true rfl) (Nat.le_of_ble_eq_true rfl) (Nat.le_of_ble_eq_true rfl) (Nat.le_of_ble_eq_true rfl) ?_
  refine x_top (M := M_X7_addLimbs) (y := (Int32.ofInt 1)) (by decide +kernel) ?_
  refine x_istore (M := M_X7_addLimbs) dX7_addLimbs_23 (Nat.le_of_ble_eq_true rfl) rfl ?_
  refine x_lconst (M := M_X7_addLimbs) dX7_addLimbs_25 ?_
  refine x_topl (M := M_X7_addLimbs) (y := (Int64.ofInt 0)) (by decide +kernel) ?_
  refine x_lstore (M := M_X7_addLimbs) dX7_addLimbs_26 (Nat.le_of_ble_eq_true rfl) rfl ?_
  refine x_iconst (M := M_X7_addLimbs) dX7_addLimbs_28 ?_
  refine x_istore (M := M_X7_addLimbs) dX7_addLimbs_29 (Nat.le_of_ble_eq_true rfl) rfl ?_
  refine x_iload (M := M_X7_addLimbs) dX7_addLimbs_31 rfl ?_
  refine x_iload (M := M_X7_addLimbs) dX7_addLimbs_33 rfl ?_
  refine x_icmp_ge (M := M_X7_addLimbs) (tgt := 87) dX7_addLimbs_35 (by decide) (fun q => absurd q (by decide +kernel)) (fun _ => ?_)
  refine x_aload_n (M := M_X7_addLimbs) dX7_addLimbs_38 rfl ?_
  refine x_iload_n (M := M_X7_addLimbs) dX7_addLimbs_39 rfl ?_
  refine x_iload (M := M_X7_addLimbs) dX7_addLimbs_40 rfl ?_
  refine x_callVR (M := M_X7_addLimbs) (M' := M_X7_limbAt) rfl rfl dX7_addLimbs_42 m_X7_limbAt t_2352 t_2354 s_153 (q6805 hl o7023 o7024) rfl rfl o7023 rfl (Nat.le_of_ble_eq_true rfl) (Nat.le_of_ble_eq_true rfl) (Nat.le_of_ble_eq_true rfl) (Nat.le_of_ble_eq_true rfl) ?_
  refine x_iload (M := M_X7_addLimbs) dX7_addLimbs_45 rfl ?_
  refine x_i2l (M := M_X7_addLimbs) dX7_addLimbs_47 ?_
  refine x_aload_n (M := M_X7_addLimbs) dX7_addLimbs_48 rfl ?_
  refine x_iload_n (M := M_X7_addLimbs) dX7_addLimbs_49 rfl ?_
  refine x_iload (M := M_X7_addLimbs) dX7_addLimbs_50 rfl ?_
  refine x_callVR (M := M_X7_addLimbs) (M' := M_X7_limbAt) rfl rfl dX7_addLimbs_52 m_X7_limbAt t_2352 t_2354 s_153 (q6808 hl o7023 o7024) rfl rfl o7023 rfl (Nat.le_of_ble_eq_true rfl) (Nat.le_of_ble_eq_true rfl) (Nat.le_of_ble_eq_true rfl) (Nat.le_of_ble_eq_true rfl) ?_
  refine x_lmul (M := M_X7_addLimbs) dX7_addLimbs_55 ?_
  refine x_ladd (M := M_X7_addLimbs) dX7_addLimbs_56 ?_
  refine x_lload (M := M_X7_addLimbs) dX7_addLimbs_57 rfl ?_
  refine x_ladd (M := M_X7_addLimbs) dX7_addLimbs_59 ?_
  refine x_topl (M := M_X7_addLimbs) (y := (Int64.ofInt 0)) (by decide +kernel) ?_
  refine x_lstore (M := M_X7_addLimbs) dX7_addLimbs_60 (Nat.le_of_ble_eq_true rfl) rfl ?_
  refine x_aload_n (M := M_X7_addLimbs) dX7_addLimbs_62 rfl ?_
  refine x_getf (M := M_X7_addLimbs) (ci := 10) (C := RX7) (T := TX7) (N := 5) (ty := tyX7) cl10 dX7_addLimbs_63 o7023 2 (by decide) t_549 (v := .ref 255) rfl ?_
  refine x_iload_n (M := M_X7_addLimbs) dX7_addLimbs_66 rfl ?_
  refine x_gald (M := M_X7_addLimbs) (b := 260) dX7_addLimbs_67 o7025 (vp_inD (by decide +kernel)) (by decide +kernel) ?_
  refine x_iload (M := M_X7_addLimbs) dX7_addLimbs_68 rfl ?_
  refine x_lload (M := M_X7_addLimbs) dX7_addLimbs_70 rfl ?_
  refine x_l2i (M := M_X7_addLimbs) dX7_addLimbs_72 ?_
  refine x_norm (M := M_X7_addLimbs) (st' := [.int (Int32.ofInt 0), .int (Int32.ofInt 0), .ref 260]) rfl (vi_cons (by decide +kernel : ((Int64.ofInt 0).toInt32) = (Int32.ofInt 0)) rfl) rfl rfl rfl ?_
  refine y_iast (M := M_X7_addLimbs) (k := 0) dX7_addLimbs_73 o7026 (vp_inD (by decide +kernel)) (by decide +kernel) (fun h7027 w7028 f7029 => ?_)
  have w7030 : ob h7027 260 = some (.inl (0, 280, .inl (fun _ => 0))) := by rw [w7028, up_z (k := 0)]
  refine x_lload (M := M_X7_addLimbs) dX7_addLimbs_74 rfl ?_
  refine x_bipush (M := M_X7_addLimbs) dX7_addLimbs_76 ?_
  refine x_lshr (M := M_X7_addLimbs) dX7_addLimbs_78 ?_
  refine x_topl (M := M_X7_addLimbs) (y := (Int64.ofInt 0)) (by decide +kernel) ?_
  refine x_lstore (M := M_X7_addLimbs) dX7_addLimbs_79 (Nat.le_of_ble_eq_true rfl) rfl ?_
  refine x_lvs (M := M_X7_addLimbs) (lv' := [some (.ref 252), some (.int (Int32.ofInt 4)), some (.int (Int32.ofInt 0)), some (.int (Int32.ofInt 1)), some (.int (Int32.ofInt 1)), some (.int (Int32.ofInt 1)), some (.long (Int64.ofInt 0)), none, some (.int (Int32.ofInt 0)), some (.long (Int64.ofInt 0)), none]) rfl ?_
  refine x_iinc (M := M_X7_addLimbs) dX7_addLimbs_81 rfl (Nat.le_of_ble_eq_true rfl) rfl ?_
  refine x_lvs (M := M_X7_addLimbs) (lv' := [some (.ref 252), some (.int (Int32.ofInt 4)), some (.int (Int32.ofInt 0)), some (.int (Int32.ofInt 1)), some (.int (Int32.ofInt 1)), some (.int (Int32.ofInt 1)), some (.long (Int64.ofInt 0)), none, some (.int (Int32.ofInt 1)), some (.long (Int64.ofInt 0)), none]) (by rw [(by decide +kernel : (Int32.ofInt 0) + Int32.ofInt 1 = (Int32.ofInt 1))] <;> rfl) ?_
  refine x_goto (M := M_X7_addLimbs) (tgt := 31) dX7_addLimbs_84 (by decide) ?_
  refine x_iload (M := M_X7_addLimbs) dX7_addLimbs_31 rfl ?_
  refine x_iload (M := M_X7_addLimbs) dX7_addLimbs_33 rfl ?_
  refine x_icmp_ge (M := M_X7_addLimbs) (tgt := 87) dX7_addLimbs_35 (by decide) (fun _ => ?_) (fun q => absurd q (by decide +kernel))
  refine x_aload_n (M := M_X7_addLimbs) dX7_addLimbs_87 rfl ?_
  have o7031 := (f7029 252 _ (by decide) o7023)
  refine x_getf (M := M_X7_addLimbs) (ci := 10) (C := RX7) (T := TX7) (N := 5) (ty := tyX7) cl10 dX7_addLimbs_88 o7031 3 (by decide) t_550 (v := .ref 272) rfl ?_
  refine x_iload_n (M := M_X7_addLimbs) dX7_addLimbs_91 rfl ?_
  refine x_iload (M := M_X7_addLimbs) dX7_addLimbs_92 rfl ?_
  have o7032 := (f7029 272 _ (by decide) o7024)
  refine y_iast (M := M_X7_addLimbs) (k := 4) dX7_addLimbs_94 o7032 (vp_inD (by decide +kernel)) (by decide +kernel) (fun h7033 w7034 f7035 => ?_)
  have o7036 := (f7035 260 _ (by decide) w7030)
  exact x_vret (M := M_X7_addLimbs) dX7_addLimbs_95 rfl ⟨rfl, (fr_tr f7035 (by decide) (fr_tr f7029 (by decide) fr_rf)), ⟨o7036, w7034, trivial⟩⟩ (Nat.le_of_ble_eq_true rfl) (Nat.le_of_ble_eq_true rfl)
set_option maxRecDepth 10000 in
theorem q7068 {l : Launch} {E : EE} (hl : l.stackTraces = false) {h : HP} (o7052 : ob h 252 = some (.inr (10, [.ref 253, .ref 254, .ref 255, .ref 272, .ref 273]))) (o7053 : ob h 272 = some (.inl (0, 16, .inl (upd (fun _ => 0) 4 (Int32.ofInt 1))))) (o7054 : ob h 255 = some (.inl (5, 16, .inr (.inr (.inr (.inr (fun i => if i < 16 then some (255 + 1 + i) else none))))))) (o7055 : ob h 260 = some (.inl (0, 280, .inl (fun _ => 0)))) (o7061 : ob h 273 = some (.inl (0, 16, .inl (fun _ => 0)))) : en_C l E M_X7_trim 0 0 0 [.ref 252, .int (Int32.ofInt 4)] h (pF none [272, 273] h (fun h' => ob h' 272 = some (.inl (0, 16, .inl (fun _ => 0))) ∧ ob h' 273 = some (.inl (0, 16, .inl (fun _ => 0))) ∧ True)) := by
  refine en_mk m_X7_trim rfl hl (Nat.le_of_ble_eq_true rfl) ?_
  refine x_aload_n (M := M_X7_trim) dX7_trim_0 rfl ?_
  refine x_getf (M := M_X7_trim) (ci := 10) (C := RX7) (T := TX7) (N := 5) (ty := tyX7) cl10 dX7_trim_1 o7052 3 (by decide) t_550 (v := .ref 272) rfl ?_
  refine x_iload_n (M := M_X7_trim) dX7_trim_4 rfl ?_
  refine x_iald (M := M_X7_trim) dX7_trim_5 o7053 (vp_inD (by decide +kernel)) ?_
  refine x_top (M := M_X7_trim) (y := (Int32.ofInt 1)) (by decide +kernel) ?_
  refine x_if_le (M := M_X7_trim) (tgt := 40) dX7_trim_6 (by decide) (fun q => absurd q (by decide +kernel)) (fun _ => ?_)
  refine x_aload_n (M := M_X7_trim) dX7_trim_9 rfl ?_
  refine x_getf (M := M_X7_trim) (ci := 10) (C := RX7) (T := TX7) (N := 5) (ty := tyX7) cl10 dX7_trim_10 o7052 2 (by decide) t_549 (v := .ref 255) rfl ?_
  refine x_iload_n (M := M_X7_trim) dX7_trim_13 rfl ?_
  refine x_gald (M := M_X7_trim) (b := 260) dX7_trim_14 o7054 (vp_inD (by decide +kernel)) (by decide +kernel) ?_
  refine x_aload_n (M := M_X7_trim) dX7_trim_15 rfl ?_
  refine x_getf (M := M_X7_trim) (ci := 10) (C := RX7) (T := TX7) (N := 5) (ty := tyX7) cl10 dX7_trim_16 o7052 3 (by decide) t_550 (v := .ref 272) rfl ?_
  refine x_iload_n (M := M_X7_trim) dX7_trim_19 rfl ?_
  refine x_iald (M := M_X7_trim) dX7_trim_20 o7053 (vp_inD (by decide +kernel)) ?_
  refine x_top (M := M_X7_trim) (y := (Int32.ofInt 1)) (by decide +kernel) ?_
  refine x_iconst (M := M_X7_trim) dX7_trim_21 ?_
  refine x_isub (M := M_X7_trim) dX7_trim_22 ?_
  refine x_iald (M := M_X7_trim) dX7_trim_23 o7055 (vp_inD (by decide +kernel)) ?_
  refine x_top (M := M_X7_trim) (y := (Int32.ofInt 0)) (by decide +kernel) ?_
  refine x_if_ne (M := M_X7_trim) (tgt := 40) dX7_trim_24 (by decide) (fun q => absurd q (by decide +kernel)) (fun _ => ?_)
  refine x_aload_n (M := M_X7_trim) dX7_trim_27 rfl ?_
  refine x_getf (M := M_X7_trim) (ci := 10) (C := RX7) (T := TX7) (N := 5) (ty := tyX7) cl10 dX7_trim_28 o7052 3 (by decide) t_550 (v := .ref 272) rfl ?_
  refine x_iload_n (M := M_X7_trim) dX7_trim_31 rfl ?_
  refine x_dup2 (M := M_X7_trim) dX7_trim_32 rfl rfl ?_
  refine x_iald (M := M_X7_trim) dX7_trim_33 o7053 (vp_inD (by decide +kernel)) ?_
  refine x_top (M := M_X7_trim) (y := (Int32.ofInt 1)) (by decide +kernel) ?_
  refine x_iconst (M := M_X7_trim) dX7_trim_34 ?_
  refine x_isub (M := M_X7_trim) dX7_trim_35 ?_
  refine x_norm (M := M_X7_trim) (st' := [.int (Int32.ofInt 0), .int (Int32.ofInt 4), .ref 272]) rfl (vi_cons (by decide +kernel : ((Int32.ofInt 1) - (Int32.ofInt 1)) = (Int32.ofInt 0)) rfl) rfl rfl rfl ?_
  refine y_iast (M := M_X7_trim) (k := 4) dX7_trim_36 o7053 (vp_inD (by decide +kernel)) (by decide +kernel) (fun h7056 w7057 f7058 => ?_)
  have w7059 : ob h7056 272 = some (.inl (0, 16, .inl (fun _ => 0))) := by rw [w7057, up_up (k := 4), up_z (k := 4)]
  refine x_goto (M := M_X7_trim) (tgt := 0) dX7_trim_37 (by decide) ?_
  refine x_aload_n (M := M_X7_trim) dX7_trim_0 rfl ?_
  have o7060 := (f7058 252 _ (by decide) o7052)
  refine x_getf (M := M_X7_trim) (ci := 10) (C := RX7) (T := TX7) (N := 5) (ty := tyX7) cl10 dX7_trim_1 o7060 3 (by decide) t_550 (v := .ref 272) rfl ?_
  refine x_iload_n (M := M_X7_trim) dX7_trim_4 rfl ?_
  refine x_iald (M := M_X7_trim) dX7_trim_5 w7059 (vp_inD (by decide +kernel)) ?_
  refine x_top (M := M_X7_trim) (y := (Int32.ofInt 0)) (by decide +kernel) ?_
  refine x_if_le (M := M_X7_trim) (tgt := 40) dX7_trim_6 (by decide) (fun _ => ?_) (fun q => absurd q (by decide +kernel))
  refine x_aload_n (M := M_X7_trim) dX7_trim_40 rfl ?_
  refine x_getf (M := M_X7_trim) (ci := 10) (C := RX7) (T := TX7) (N := 5) (ty := tyX7) cl10 dX7_trim_41 o7060 3 (by decide) t_550 (v := .ref 272) rfl ?_
  refine x_iload_n (M := M_X7_trim) dX7_trim_44 rfl ?_
  refine x_iald (M := M_X7_trim) dX7_trim_45 w7059 (vp_inD (by decide +kernel)) ?_
  refine x_top (M := M_X7_trim) (y := (Int32.ofInt 0)) (by decide +kernel) ?_
  refine x_if_ne (M := M_X7_trim) (tgt := 56) dX7_trim_46 (by decide) (fun q => absurd q (by decide +kernel)) (fun _ => ?_)
  refine x_aload_n (M := M_X7_trim) dX7_trim_49 rfl ?_
  refine x_getf (M := M_X7_trim) (ci := 10) (C := RX7) (T := TX7) (N := 5) (ty := tyX7) cl10 dX7_trim_50 o7060 4 (by decide) t_551 (v := .ref 273) rfl ?_
  refine x_iload_n (M := M_X7_trim) dX7_trim_53 rfl ?_
  refine x_iconst (M := M_X7_trim) dX7_trim_54 ?_
  have o7062 := (f7058 273 _ (by decide) o7061)
  refine y_iast (M := M_X7_trim) (k := 4) dX7_trim_55 o7062 (vp_inD (by decide +kernel)) (by decide +kernel) (fun h7063 w7064 f7065 => ?_)
  have w7066 : ob h7063 273 = some (.inl (0, 16, .inl (fun _ => 0))) := by rw [w7064, up_z (k := 4)]
  have o7067 := (f7065 272 _ (by decide) w7059)
  exact x_vret (M := M_X7_trim) dX7_trim_56 rfl ⟨rfl, (fr_tr f7065 (by decide) (fr_tr f7058 (by decide) fr_rf)), ⟨o7067, w7066, trivial⟩⟩ (Nat.le_of_ble_eq_true rfl) (Nat.le_of_ble_eq_true rfl)
set_option maxRecDepth 10000 in
theorem q7079 {l : Launch} {E : EE} (hl : l.stackTraces = false) {h : HP} (o7021 : ob h 252 = some (.inr (10, [.ref 253, .ref 254, .ref 255, .ref 272, .ref 273]))) (o7022 : ob h 273 = some (.inl (0, 16, .inl (fun _ => 0)))) (o7038 : ob h 272 = some (.inl (0, 16, .inl (fun _ => 0)))) (o7039 : ob h 255 = some (.inl (5, 16, .inr (.inr (.inr (.inr (fun i => if i < 16 then some (255 + 1 + i) else none))))))) (o7040 : ob h 260 = some (.inl (0, 280, .inl (fun _ => 0)))) : en_C l E M_X7_addSigned 2 0 0 [.ref 252, .int (Int32.ofInt 4), .int (Int32.ofInt 0), .int (Int32.ofInt 1), .int (Int32.ofInt (-1))] h (pF none [260, 272, 273] h (fun h' => ob h' 260 = some (.inl (0, 280, .inl (fun _ => 0))) ∧ ob h' 272 = some (.inl (0, 16, .inl (fun _ => 0))) ∧ ob h' 273 = some (.inl (0, 16, .inl (fun _ => 0))) ∧ True)) := by
  refine en_mk m_X7_addSigned rfl hl (Nat.le_of_ble_eq_true rfl) ?_
  refine x_aload_n (M := M_X7_addSigned) dX7_addSigned_0 rfl ?_
  refine x_getf (M := M_X7_addSigned) (ci := 10) (C := RX7) (T := TX7) (N := 5) (ty := tyX7) cl10 dX7_addSigned_1 o7021 4 (by decide) t_551 (v := .ref 273) rfl ?_
  refine x_iload_n (M := M_X7_addSigned) dX7_addSigned_4 rfl ?_
  refine x_iald (M := M_X7_addSigned) dX7_addSigned_5 o7022 (vp_inD (by decide +kernel)) ?_
  refine x_top (M := M_X7_addSigned) (y := (Int32.ofInt 0)) (by decide +kernel) ?_
  refine x_iload (M := M_X7_addSigned) dX7_addSigned_6 rfl ?_
  refine x_imul (M := M_X7_addSigned) dX7_addSigned_8 ?_
  refine x_top (M := M_X7_addSigned) (y := (Int32.ofInt 0)) (by decide +kernel) ?_
  refine x_istore (M := M_X7_addSigned) dX7_addSigned_9 (Nat.le_of_ble_eq_true rfl) rfl ?_
  refine x_aload_n (M := M_X7_addSigned) dX7_addSigned_11 rfl ?_
  refine x_getf (M := M_X7_addSigned) (ci := 10) (C := RX7) (T := TX7) (N := 5) (ty := tyX7) cl10 dX7_addSigned_12 o7021 4 (by decide) t_551 (v := .ref 273) rfl ?_
  refine x_iload_n (M := M_X7_addSigned) dX7_addSigned_15 rfl ?_
  refine x_iald (M := M_X7_addSigned) dX7_addSigned_16 o7022 (vp_inD (by decide +kernel)) ?_
  refine x_top (M := M_X7_addSigned) (y := (Int32.ofInt 0)) (by decide +kernel) ?_
  refine x_iload (M := M_X7_addSigned) dX7_addSigned_17 rfl ?_
  refine x_imul (M := M_X7_addSigned) dX7_addSigned_19 ?_
  refine x_if_lt (M := M_X7_addSigned) (tgt := 64) dX7_addSigned_20 (by decide) (fun q => absurd q (by decide +kernel)) (fun _ => ?_)
  refine x_aload_n (M := M_X7_addSigned) dX7_addSigned_23 rfl ?_
  refine x_getf (M := M_X7_addSigned) (ci := 10) (C := RX7) (T := TX7) (N := 5) (ty := tyX7) cl10 dX7_addSigned_24 o7021 4 (by decide) t_551 (v := .ref 273) rfl ?_
  refine x_iload_n (M := M_X7_addSigned) dX7_addSigned_27 rfl ?_
  refine x_iald (M := M_X7_addSigned) dX7_addSigned_28 o7022 (vp_inD (by decide +kernel)) ?_
  refine x_top (M := M_X7_addSigned) (y := (Int32.ofInt 0)) (by decide +kernel) ?_
  refine x_if_eq (M := M_X7_addSigned) (tgt := 41) dX7_addSigned_29 (by decide) (fun _ => ?_) (fun q => absurd q (by decide +kernel))
  refine x_iload (M := M_X7_addSigned) dX7_addSigned_41 rfl ?_
  refine x_istore (M := M_X7_addSigned) dX7_addSigned_43 (Nat.le_of_ble_eq_true rfl) rfl ?_
  refine x_aload_n (M := M_X7_addSigned) dX7_addSigned_45 rfl ?_
  refine x_iload_n (M := M_X7_addSigned) dX7_addSigned_46 rfl ?_
  refine x_iload_n (M := M_X7_addSigned) dX7_addSigned_47 rfl ?_
  refine x_iload_n (M := M_X7_addSigned) dX7_addSigned_48 rfl ?_
  refine x_iconst (M := M_X7_addSigned) dX7_addSigned_49 ?_
  refine y_callVR (M := M_X7_addSigned) (M' := M_X7_addLimbs) rfl rfl dX7_addSigned_50 m_X7_addLimbs t_2347 t_2349 s_152 (q7037 hl o7021 o7038 o7039 o7040) rfl rfl o7021 rfl (Nat.le_of_ble_eq_true rfl) (Nat.le_of_ble_eq_true rfl) (Nat.le_of_ble_eq_true rfl) (Nat.le_of_ble_eq_true rfl) (fun h7041 f7042 w7043 => ?_)
  obtain ⟨o7044, o7045, -⟩ := w7043
  refine x_aload_n (M := M_X7_addSigned) dX7_addSigned_53 rfl ?_
  have o7046 := (f7042 252 _ (by decide) o7021)
  refine x_getf (M := M_X7_addSigned) (ci := 10) (C := RX7) (T := TX7) (N := 5) (ty := tyX7) cl10 dX7_addSigned_54 o7046 4 (by decide) t_551 (v := .ref 273) rfl ?_
  refine x_iload_n (M := M_X7_addSigned) dX7_addSigned_57 rfl ?_
  refine x_iload (M := M_X7_addSigned) dX7_addSigned_58 rfl ?_
  have o7047 := (f7042 273 _ (by decide) o7022)
  refine y_iast (M := M_X7_addSigned) (k := 4) dX7_addSigned_60 o7047 (vp_inD (by decide +kernel)) (by decide +kernel) (fun h7048 w7049 f7050 => ?_)
  have w7051 : ob h7048 273 = some (.inl (0, 16, .inl (fun _ => 0))) := by rw [w7049, up_z (k := 4)]
  refine x_goto (M := M_X7_addSigned) (tgt := 112) dX7_addSigned_61 (by decide) ?_
  refine x_aload_n (M := M_X7_addSigned) dX7_addSigned_112 rfl ?_
  refine x_iload_n (M := M_X7_addSigned) dX7_addSigned_113 rfl ?_
  have o7069 := (f7050 252 _ (by decide) o7046)
  have o7070 := (f7050 272 _ (by decide) o7045)
  have o7071 := (f7050 255 _ (by decide) (f7042 255 _ (by decide) o7039))
  have o7072 := (f7050 260 _ (by decide) o7044)
  refine y_callVR (M := M_X7_addSigned) (M' := M_X7_trim) rfl rfl dX7_addSigned_114 m_X7_trim t_2339 t_2341 s_150 (q7068 hl o7069 o7070 o7071 o7072 w7051) rfl rfl o7069 rfl (Nat.le_of_ble_eq_true rfl) (Nat.le_of_ble_eq_true rfl) (Nat.le_of_ble_eq_true rfl) (Nat.le_of_ble_eq_true rfl) (fun h7073 f7074 w7075 => ?_)
  obtain ⟨o7076, o7077, -⟩ := w7075
  have o7078 := (f7074 260 _ (by decide) o7072)
  exact x_vret (M := M_X7_addSigned) dX7_addSigned_117 rfl ⟨rfl, (fr_tr f7074 (by decide) (fr_tr f7050 (by decide) (fr_tr f7042 (by decide) fr_rf))), ⟨o7078, o7076, o7077, trivial⟩⟩ (Nat.le_of_ble_eq_true rfl) (Nat.le_of_ble_eq_true rfl)
set_option maxRecDepth 10000 in
theorem q7092 {l : Launch} {E : EE} (hl : l.stackTraces = false) {h : HP} (o7000 : ob h 252 = some (.inr (10, [.ref 253, .ref 254, .ref 255, .ref 272, .ref 273]))) (o7001 : ob h 255 = some (.inl (5, 16, .inr (.inr (.inr (.inr (fun i => if i < 16 then some (255 + 1 + i) else none))))))) (o7002 : ob h 256 = some (.inl (0, 280, .inl (fun _ => 0)))) (o7003 : ob h 272 = some (.inl (0, 16, .inl (fun _ => 0)))) (o7004 : ob h 273 = some (.inl (0, 16, .inl (fun _ => 0)))) (o7013 : ob h 257 = some (.inl (0, 280, .inl (fun _ => 0)))) (o7082 : ob h 260 = some (.inl (0, 280, .inl (fun _ => 0)))) : en_C l E M_X7_difference 3 0 0 [.ref 252, .int (Int32.ofInt 4), .long (Int64.ofInt 0), .long (Int64.ofInt 0)] h (pF none [256, 272, 273, 257, 260] h (fun h' => ob h' 256 = some (.inl (0, 280, .inl (fun _ => 0))) ∧ ob h' 272 = some (.inl (0, 16, .inl (fun _ => 0))) ∧ ob h' 273 = some (.inl (0, 16, .inl (fun _ => 0))) ∧ ob h' 257 = some (.inl (0, 280, .inl (fun _ => 0))) ∧ ob h' 260 = some (.inl (0, 280, .inl (fun _ => 0))) ∧ True)) := by
  refine en_mk m_X7_difference rfl hl (Nat.le_of_ble_eq_true rfl) ?_
  refine x_aload_n (M := M_X7_difference) dX7_difference_0 rfl ?_
  refine x_iconst (M := M_X7_difference) dX7_difference_1 ?_
  refine x_lload_n (M := M_X7_difference) dX7_difference_2 rfl ?_
  refine y_callVR (M := M_X7_difference) (M' := M_X7_load) rfl rfl dX7_difference_3 m_X7_load t_2331 t_2333 s_149 (q6684 hl o7000 o7001 o7002 o7003 o7004) rfl rfl o7000 rfl (Nat.le_of_ble_eq_true rfl) (Nat.le_of_ble_eq_true rfl) (Nat.le_of_ble_eq_true rfl) (Nat.le_of_ble_eq_true rfl) (fun h7005 f7006 w7007 => ?_)
  obtain ⟨o7008, o7009, o7010, -⟩ := w7007
  refine x_aload_n (M := M_X7_difference) dX7_difference_6 rfl ?_
  refine x_iconst (M := M_X7_difference) dX7_difference_7 ?_
  refine x_lload (M := M_X7_difference) dX7_difference_8 rfl ?_
  have o7011 := (f7006 252 _ (by decide) o7000)
  have o7012 := (f7006 255 _ (by decide) o7001)
  have o7014 := (f7006 257 _ (by decide) o7013)
  refine y_callVR (M := M_X7_difference) (M' := M_X7_load) rfl rfl dX7_difference_10 m_X7_load t_2331 t_2333 s_149 (q6788 hl o7011 o7012 o7014 o7009 o7010) rfl rfl o7011 rfl (Nat.le_of_ble_eq_true rfl) (Nat.le_of_ble_eq_true rfl) (Nat.le_of_ble_eq_true rfl) (Nat.le_of_ble_eq_true rfl) (fun h7015 f7016 w7017 => ?_)
  obtain ⟨o7018, o7019, o7020, -⟩ := w7017
  refine x_aload_n (M := M_X7_difference) dX7_difference_13 rfl ?_
  refine x_iload_n (M := M_X7_difference) dX7_difference_14 rfl ?_
  refine x_iconst (M := M_X7_difference) dX7_difference_15 ?_
  refine x_iconst (M := M_X7_difference) dX7_difference_16 ?_
  refine x_iconst (M := M_X7_difference) dX7_difference_17 ?_
  have o7080 := (f7016 252 _ (by decide) o7011)
  have o7081 := (f7016 255 _ (by decide) o7012)
  have o7083 := (f7016 260 _ (by decide) (f7006 260 _ (by decide) o7082))
  refine y_callVR (M := M_X7_difference) (M' := M_X7_addSigned) rfl rfl dX7_difference_18 m_X7_addSigned t_2343 t_2345 s_151 (q7079 hl o7080 o7020 o7019 o7081 o7083) rfl rfl o7080 rfl (Nat.le_of_ble_eq_true rfl) (Nat.le_of_ble_eq_true rfl) (Nat.le_of_ble_eq_true rfl) (Nat.le_of_ble_eq_true rfl) (fun h7084 f7085 w7086 => ?_)
  obtain ⟨o7087, o7088, o7089, -⟩ := w7086
  have o7090 := (f7085 256 _ (by decide) (f7016 256 _ (by decide) o7008))
  have o7091 := (f7085 257 _ (by decide) o7018)
  exact x_vret (M := M_X7_difference) dX7_difference_21 rfl ⟨rfl, (fr_tr f7085 (by decide) (fr_tr f7016 (by decide) (fr_tr f7006 (by decide) fr_rf))), ⟨o7090, o7088, o7089, o7091, o7087, trivial⟩⟩ (Nat.le_of_ble_eq_true rfl) (Nat.le_of_ble_eq_true rfl)
set_option maxRecDepth 10000 in
theorem q7143 {l : Launch} {E : EE} (hl : l.stackTraces = false) {h : HP} (o7129 : ob h 252 = some (.inr (10, [.ref 253, .ref 254, .ref 255, .ref 272, .ref 273]))) (o7130 : ob h 272 = some (.inl (0, 16, .inl (fun _ => 0)))) (o7131 : ob h 255 = some (.inl (5, 16, .inr (.inr (.inr (.inr (fun i => if i < 16 then some (255 + 1 + i) else none))))))) (o7132 : ob h 261 = some (.inl (0, 280, .inl (fun _ => 0)))) : en_C l E M_X7_addLimbs 1 0 0 [.ref 252, .int (Int32.ofInt 5), .int (Int32.ofInt 0), .int (Int32.ofInt 1), .int (Int32.ofInt 1)] h (pF none [261, 272] h (fun h' => ob h' 261 = some (.inl (0, 280, .inl (fun _ => 0))) ∧ ob h' 272 = some (.inl (0, 16, .inl (upd (fun _ => 0) 5 (Int32.ofInt 1)))) ∧ True)) := by
  refine en_mk m_X7_addLimbs rfl hl (Nat.le_of_ble_eq_true rfl) ?_
  refine x_aload_n (M := M_X7_addLimbs) dX7_addLimbs_0 rfl ?_
  refine x_getf (M := M_X7_addLimbs) (ci := 10) (C := RX7) (T := TX7) (N := 5) (ty := tyX7) cl10 dX7_addLimbs_1 o7129 3 (by decide) t_550 (v := .ref 272) rfl ?_
  refine x_iload_n (M := M_X7_addLimbs) dX7_addLimbs_4 rfl ?_
  refine x_iald (M := M_X7_addLimbs) dX7_addLimbs_5 o7130 (vp_inD (by decide +kernel)) ?_
  refine x_top (M := M_X7_addLimbs) (y := (Int32.ofInt 0)) (by decide +kernel) ?_
  refine x_aload_n (M := M_X7_addLimbs) dX7_addLimbs_6 rfl ?_
  refine x_getf (M := M_X7_addLimbs) (ci := 10) (C := RX7) (T := TX7) (N := 5) (ty := tyX7) cl10 dX7_addLimbs_7 o7129 3 (by decide) t_550 (v := .ref 272) rfl ?_
  refine x_iload_n (M := M_X7_addLimbs) dX7_addLimbs_10 rfl ?_
  refine x_iald (M := M_X7_addLimbs) dX7_addLimbs_11 o7130 (vp_inD (by decide +kernel)) ?_
  refine x_top (M := M_X7_addLimbs) (y := (Int32.ofInt 0)) (by decide +kernel) ?_
  refine x_mmax (M := M_X7_addLimbs) dX7_addLimbs_12 t_2336 t_1013 t_20 t_1014 (Nat.le_of_ble_eq_true rfl) (Nat.le_of_ble_eq_true rfl) (Nat.le_of_ble_eq_true rfl) (Nat.le_of_ble_eq_true rfl) ?_
  refine x_top (M := M_X7_addLimbs) (y := (Int32.ofInt 0)) (by decide +kernel) ?_
  refine x_iconst (M := M_X7_addLimbs) dX7_addLimbs_15 ?_
  refine x_iadd (M := M_X7_addLimbs) dX7_addLimbs_16 ?_
  refine x_sipush (M := M_X7_addLimbs) dX7_addLimbs_17 ?_
  refine x_mmin (M := M_X7_addLimbs) dX7_addLimbs_20 t_2351 t_626 t_20 t_627 (Nat.le_of_ble_eq_true rfl) (Nat.le_of_ble_eq_true rfl) (Nat.le_of_ble_eq_true rfl) (Nat.le_of_ble_eq_true rfl) ?_
  refine x_top (M := M_X7_addLimbs) (y := (Int32.ofInt 1)) (by decide +kernel) ?_
  refine x_istore (M := M_X7_addLimbs) dX7_addLimbs_23 (Nat.le_of_ble_eq_true rfl) rfl ?_
  refine x_lconst (M := M_X7_addLimbs) dX7_addLimbs_25 ?_
  refine x_topl (M := M_X7_addLimbs) (y := (Int64.ofInt 0)) (by decide +kernel) ?_
  refine x_lstore (M := M_X7_addLimbs) dX7_addLimbs_26 (Nat.le_of_ble_eq_true rfl) rfl ?_
  refine x_iconst (M := M_X7_addLimbs) dX7_addLimbs_28 ?_
  refine x_istore (M := M_X7_addLimbs) dX7_addLimbs_29 (Nat.le_of_ble_eq_true rfl) rfl ?_
  refine x_iload (M := M_X7_addLimbs) dX7_addLimbs_31 rfl ?_
  refine x_iload (M := M_X7_addLimbs) dX7_addLimbs_33 rfl ?_
  refine x_icmp_ge (M := M_X7_addLimbs) (tgt := 87) dX7_addLimbs_35 (by decide) (fun q => absurd q (by decide +kernel)) (fun _ => ?_)
  refine x_aload_n (M := M_X7_addLimbs) dX7_addLimbs_38 rfl ?_
  refine x_iload_n (M := M_X7_addLimbs) dX7_addLimbs_39 rfl ?_
  refine x_iload (M := M_X7_addLimbs) dX7_addLimbs_40 rfl ?_
  refine x_callVR (M := M_X7_addLimbs) (M' := M_X7_limbAt) rfl rfl dX7_addLimbs_42 m_X7_limbAt t_2352 t_2354 s_153 (q6805 hl o7129 o7130) rfl rfl o7129 rfl (Nat.le_of_ble_eq_true rfl) (Nat.le_of_ble_eq_true rfl) (Nat.le_of_ble_eq_true rfl) (Nat.le_of_ble_eq_true rfl) ?_
  refine x_iload (M := M_X7_addLimbs) dX7_addLimbs_45 rfl ?_
  refine x_i2l (M := M_X7_addLimbs) dX7_addLimbs_47 ?_
  refine x_aload_n (M := M_X7_addLimbs) dX7_addLimbs_48 rfl ?_
  refine x_iload_n (M := M_X7_addLimbs) dX7_addLimbs_49 rfl ?_
  refine x_iload (M := M_X7_addLimbs) dX7_addLimbs_50 rfl ?_
  refine x_callVR (M := M_X7_addLimbs) (M' := M_X7_limbAt) rfl rfl dX7_addLimbs_52 m_X7_limbAt t_2352 t_2354 s_153 (q6808 hl o7129 o7130) rfl rfl o7129 rfl (Nat.le_of_ble_eq_true rfl) (Nat.le_of_ble_eq_true rfl) (Nat.le_of_ble_eq_true rfl) (Nat.le_of_ble_eq_true rfl) ?_
  refine x_lmul (M := M_X7_addLimbs) dX7_addLimbs_55 ?_
  refine x_ladd (M := M_X7_addLimbs) dX7_addLimbs_56 ?_
  refine x_lload (M := M_X7_addLimbs) dX7_addLimbs_57 rfl ?_
  refine x_ladd (M := M_X7_addLimbs) dX7_addLimbs_59 ?_
  refine x_topl (M := M_X7_addLimbs) (y := (Int64.ofInt 0)) (by decide +kernel) ?_
  refine x_lstore (M := M_X7_addLimbs) dX7_addLimbs_60 (Nat.le_of_ble_eq_true rfl) rfl ?_
  refine x_aload_n (M := M_X7_addLimbs) dX7_addLimbs_62 rfl ?_
  refine x_getf (M := M_X7_addLimbs) (ci := 10) (C := RX7) (T := TX7) (N := 5) (ty := tyX7) cl10 dX7_addLimbs_63 o7129 2 (by decide) t_549 (v := .ref 255) rfl ?_
  refine x_iload_n (M := M_X7_addLimbs) dX7_addLimbs_66 rfl ?_
  refine x_gald (M := M_X7_addLimbs) (b := 261) dX7_addLimbs_67 o7131 (vp_inD (by decide +kernel)) (by decide +kernel) ?_
  refine x_iload (M := M_X7_addLimbs) dX7_addLimbs_68 rfl ?_
  refine x_lload (M := M_X7_addLimbs) dX7_addLimbs_70 rfl ?_
  refine x_l2i (M := M_X7_addLimbs) dX7_addLimbs_72 ?_
  refine x_norm (M := M_X7_addLimbs) (st' := [.int (Int32.ofInt 0), .int (Int32.ofInt 0), .ref 261]) rfl (vi_cons (by decide +kernel : ((Int64.ofInt 0).toInt32) = (Int32.ofInt 0)) rfl) rfl rfl rfl ?_
  refine y_iast (M := M_X7_addLimbs) (k := 0) dX7_addLimbs_73 o7132 (vp_inD (by decide +kernel)) (by decide +kernel) (fun h7133 w7134 f7135 => ?_)
  have w7136 : ob h7133 261 = some (.inl (0, 280, .inl (fun _ => 0))) := by rw [w7134, up_z (k := 0)]
  refine x_lload (M := M_X7_addLimbs) dX7_addLimbs_74 rfl ?_
  refine x_bipush (M := M_X7_addLimbs) dX7_addLimbs_76 ?_
  refine x_lshr (M := M_X7_addLimbs) dX7_addLimbs_78 ?_
  refine x_topl (M := M_X7_addLimbs) (y := (Int64.ofInt 0)) (by decide +kernel) ?_
  refine x_lstore (M := M_X7_addLimbs) dX7_addLimbs_79 (Nat.le_of_ble_eq_true rfl) rfl ?_
  refine x_lvs (M := M_X7_addLimbs) (lv' := [some (.ref 252), some (.int (Int32.ofInt 5)), some (.int (Int32.ofInt 0)), some (.int (Int32.ofInt 1)), some (.int (Int32.ofInt 1)), some (.int (Int32.ofInt 1)), some (.long (Int64.ofInt 0)), none, some (.int (Int32.ofInt 0)), some (.long (Int64.ofInt 0)), none]) rfl ?_
  refine x_iinc (M := M_X7_addLimbs) dX7_addLimbs_81 rfl (Nat.le_of_ble_eq_true rfl) rfl ?_
  refine x_lvs (M := M_X7_addLimbs) (lv' := [some (.ref 252), some (.int (Int32.ofInt 5)), some (.int (Int32.ofInt 0)), some (.int (Int32.ofInt 1)), some (.int (Int32.ofInt 1)), some (.int (Int32.ofInt 1)), some (.long (Int64.ofInt 0)), none, some (.int (Int32.ofInt 1)), some (.long (Int64.ofInt 0)), none]) (by rw [(by decide +kernel : (Int32.ofInt 0) + Int32.ofInt 1 = (Int32.ofInt 1))] <;> rfl) ?_
  refine x_goto (M := M_X7_addLimbs) (tgt := 31) dX7_addLimbs_84 (by decide) ?_
  refine x_iload (M := M_X7_addLimbs) dX7_addLimbs_31 rfl ?_
  refine x_iload (M := M_X7_addLimbs) dX7_addLimbs_33 rfl ?_
  refine x_icmp_ge (M := M_X7_addLimbs) (tgt := 87) dX7_addLimbs_35 (by decide) (fun _ => ?_) (fun q => absurd q (by decide +kernel))
  refine x_aload_n (M := M_X7_addLimbs) dX7_addLimbs_87 rfl ?_
  have o7137 := (f7135 252 _ (by decide) o7129)
  refine x_getf (M := M_X7_addLimbs) (ci := 10) (C := RX7) (T := TX7) (N := 5) (ty := tyX7) cl10 dX7_addLimbs_88 o7137 3 (by decide) t_550 (v := .ref 272) rfl ?_
  refine x_iload_n (M := M_X7_addLimbs) dX7_addLimbs_91 rfl ?_
  refine x_iload (M := M_X7_addLimbs) dX7_addLimbs_92 rfl ?_
  have o7138 := (f7135 272 _ (by decide) o7130)
  refine y_iast (M := M_X7_addLimbs) (k := 5) dX7_addLimbs_94 o7138 (vp_inD (by decide +kernel)) (by decide +kernel) (fun h7139 w7140 f7141 => ?_)
  have o7142 := (f7141 261 _ (by decide) w7136)
  exact x_vret (M := M_X7_addLimbs) dX7_addLimbs_95 rfl ⟨rfl, (fr_tr f7141 (by decide) (fr_tr f7135 (by decide) fr_rf)), ⟨o7142, w7140, trivial⟩⟩ (Nat.le_of_ble_eq_true rfl) (Nat.le_of_ble_eq_true rfl)
set_option maxRecDepth 10000 in
theorem q7174 {l : Launch} {E : EE} (hl : l.stackTraces = false) {h : HP} (o7158 : ob h 252 = some (.inr (10, [.ref 253, .ref 254, .ref 255, .ref 272, .ref 273]))) (o7159 : ob h 272 = some (.inl (0, 16, .inl (upd (fun _ => 0) 5 (Int32.ofInt 1))))) (o7160 : ob h 255 = some (.inl (5, 16, .inr (.inr (.inr (.inr (fun i => if i < 16 then some (255 + 1 + i) else none))))))) (o7161 : ob h 261 = some (.inl (0, 280, .inl (fun _ => 0)))) (o7167 : ob h 273 = some (.inl (0, 16, .inl (fun _ => 0)))) : en_C l E M_X7_trim 0 0 0 [.ref 252, .int (Int32.ofInt 5)] h (pF none [272, 273] h (fun h' => ob h' 272 = some (.inl (0, 16, .inl (fun _ => 0))) ∧ ob h' 273 = some (.inl (0, 16, .inl (fun _ => 0))) ∧ True)) := by
  refine en_mk m_X7_trim rfl hl (Nat.le_of_ble_eq_true rfl) ?_
  refine x_aload_n (M := M_X7_trim) dX7_trim_0 rfl ?_
  refine x_getf (M := M_X7_trim) (ci := 10) (C := RX7) (T := TX7) (N := 5) (ty := tyX7) cl10 dX7_trim_1 o7158 3 (by decide) t_550 (v := .ref 272) rfl ?_
  refine x_iload_n (M := M_X7_trim) dX7_trim_4 rfl ?_
  refine x_iald (M := M_X7_trim) dX7_trim_5 o7159 (vp_inD (by decide +kernel)) ?_
  refine x_top (M := M_X7_trim) (y := (Int32.ofInt 1)) (by decide +kernel) ?_
  refine x_if_le (M := M_X7_trim) (tgt := 40) dX7_trim_6 (by decide) (fun q => absurd q (by decide +kernel)) (fun _ => ?_)
  refine x_aload_n (M := M_X7_trim) dX7_trim_9 rfl ?_
  refine x_getf (M := M_X7_trim) (ci := 10) (C := RX7) (T := TX7) (N := 5) (ty := tyX7) cl10 dX7_trim_10 o7158 2 (by decide) t_549 (v := .ref 255) rfl ?_
  refine x_iload_n (M := M_X7_trim) dX7_trim_13 rfl ?_
  refine x_gald (M := M_X7_trim) (b := 261) dX7_trim_14 o7160 (vp_inD (by decide +kernel)) (by decide +kernel) ?_
  refine x_aload_n (M := M_X7_trim) dX7_trim_15 rfl ?_
  refine x_getf (M := M_X7_trim) (ci := 10) (C := RX7) (T := TX7) (N := 5) (ty := tyX7) cl10 dX7_trim_16 o7158 3 (by decide) t_550 (v := .ref 272) rfl ?_
  refine x_iload_n (M := M_X7_trim) dX7_trim_19 rfl ?_
  refine x_iald (M := M_X7_trim) dX7_trim_20 o7159 (vp_inD (by decide +kernel)) ?_
  refine x_top (M := M_X7_trim) (y := (Int32.ofInt 1)) (by decide +kernel) ?_
  refine x_iconst (M := M_X7_trim) dX7_trim_21 ?_
  refine x_isub (M := M_X7_trim) dX7_trim_22 ?_
  refine x_iald (M := M_X7_trim) dX7_trim_23 o7161 (vp_inD (by decide +kernel)) ?_
  refine x_top (M := M_X7_trim) (y := (Int32.ofInt 0)) (by decide +kernel) ?_
  refine x_if_ne (M := M_X7_trim) (tgt := 40) dX7_trim_24 (by decide) (fun q => absurd q (by decide +kernel)) (fun _ => ?_)
  refine x_aload_n (M := M_X7_trim) dX7_trim_27 rfl ?_
  refine x_getf (M := M_X7_trim) (ci := 10) (C := RX7) (T := TX7) (N := 5) (ty := tyX7) cl10 dX7_trim_28 o7158 3 (by decide) t_550 (v := .ref 272) rfl ?_
  refine x_iload_n (M := M_X7_trim) dX7_trim_31 rfl ?_
  refine x_dup2 (M := M_X7_trim) dX7_trim_32 rfl rfl ?_
  refine x_iald (M := M_X7_trim) dX7_trim_33 o7159 (vp_inD (by decide +kernel)) ?_
  refine x_top (M := M_X7_trim) (y := (Int32.ofInt 1)) (by decide +kernel) ?_
  refine x_iconst (M := M_X7_trim) dX7_trim_34 ?_
  refine x_isub (M := M_X7_trim) dX7_trim_35 ?_
  refine x_norm (M := M_X7_trim) (st' := [.int (Int32.ofInt 0), .int (Int32.ofInt 5), .ref 272]) rfl (vi_cons (by decide +kernel : ((Int32.ofInt 1) - (Int32.ofInt 1)) = (Int32.ofInt 0)) rfl) rfl rfl rfl ?_
  refine y_iast (M := M_X7_trim) (k := 5) dX7_trim_36 o7159 (vp_inD (by decide +kernel)) (by decide +kernel) (fun h7162 w7163 f7164 => ?_)
  have w7165 : ob h7162 272 = some (.inl (0, 16, .inl (fun _ => 0))) := by rw [w7163, up_up (k := 5), up_z (k := 5)]
  refine x_goto (M := M_X7_trim) (tgt := 0) dX7_trim_37 (by decide) ?_
  refine x_aload_n (M := M_X7_trim) dX7_trim_0 rfl ?_
  have o7166 := (f7164 252 _ (by decide) o7158)
  refine x_getf (M := M_X7_trim) (ci := 10) (C := RX7) (T := TX7) (N := 5) (ty := tyX7) cl10 dX7_trim_1 o7166 3 (by decide) t_550 (v := .ref 272) rfl ?_
  refine x_iload_n (M := M_X7_trim) dX7_trim_4 rfl ?_
  refine x_iald (M := M_X7_trim) dX7_trim_5 w7165 (vp_inD (by decide +kernel)) ?_
  refine x_top (M := M_X7_trim) (y := (Int32.ofInt 0)) (by decide +kernel) ?_
  refine x_if_le (M := M_X7_trim) (tgt := 40) dX7_trim_6 (by decide) (fun _ => ?_) (fun q => absurd q (by decide +kernel))
  refine x_aload_n (M := M_X7_trim) dX7_trim_40 rfl ?_
  refine x_getf (M := M_X7_trim) (ci := 10) (C := RX7) (T := TX7) (N := 5) (ty := tyX7) cl10 dX7_trim_41 o7166 3 (by decide) t_550 (v := .ref 272) rfl ?_
  refine x_iload_n (M := M_X7_trim) dX7_trim_44 rfl ?_
  refine x_iald (M := M_X7_trim) dX7_trim_45 w7165 (vp_inD (by decide +kernel)) ?_
  refine x_top (M := M_X7_trim) (y := (Int32.ofInt 0)) (by decide +kernel) ?_
  refine x_if_ne (M := M_X7_trim) (tgt := 56) dX7_trim_46 (by decide) (fun q => absurd q (by decide +kernel)) (fun _ => ?_)
  refine x_aload_n (M := M_X7_trim) dX7_trim_49 rfl ?_
  refine x_getf (M := M_X7_trim) (ci := 10) (C := RX7) (T := TX7) (N := 5) (ty := tyX7) cl10 dX7_trim_50 o7166 4 (by decide) t_551 (v := .ref 273) rfl ?_
  refine x_iload_n (M := M_X7_trim) dX7_trim_53 rfl ?_
  refine x_iconst (M := M_X7_trim) dX7_trim_54 ?_
  have o7168 := (f7164 273 _ (by decide) o7167)
  refine y_iast (M := M_X7_trim) (k := 5) dX7_trim_55 o7168 (vp_inD (by decide +kernel)) (by decide +kernel) (fun h7169 w7170 f7171 => ?_)
  have w7172 : ob h7169 273 = some (.inl (0, 16, .inl (fun _ => 0))) := by rw [w7170, up_z (k := 5)]
  have o7173 := (f7171 272 _ (by decide) w7165)
  exact x_vret (M := M_X7_trim) dX7_trim_56 rfl ⟨rfl, (fr_tr f7171 (by decide) (fr_tr f7164 (by decide) fr_rf)), ⟨o7173, w7172, trivial⟩⟩ (Nat.le_of_ble_eq_true rfl) (Nat.le_of_ble_eq_true rfl)
set_option maxRecDepth 10000 in
theorem q7185 {l : Launch} {E : EE} (hl : l.stackTraces = false) {h : HP} (o7127 : ob h 252 = some (.inr (10, [.ref 253, .ref 254, .ref 255, .ref 272, .ref 273]))) (o7128 : ob h 273 = some (.inl (0, 16, .inl (fun _ => 0)))) (o7144 : ob h 272 = some (.inl (0, 16, .inl (fun _ => 0)))) (o7145 : ob h 255 = some (.inl (5, 16, .inr (.inr (.inr (.inr (fun i => if i < 16 then some (255 + 1 + i) else none))))))) (o7146 : ob h 261 = some (.inl (0, 280, .inl (fun _ => 0)))) : en_C l E M_X7_addSigned 2 0 0 [.ref 252, .int (Int32.ofInt 5), .int (Int32.ofInt 0), .int (Int32.ofInt 1), .int (Int32.ofInt (-1))] h (pF none [261, 272, 273] h (fun h' => ob h' 261 = some (.inl (0, 280, .inl (fun _ => 0))) ∧ ob h' 272 = some (.inl (0, 16, .inl (fun _ => 0))) ∧ ob h' 273 = some (.inl (0, 16, .inl (fun _ => 0))) ∧ True)) := by
  refine en_mk m_X7_addSigned rfl hl (Nat.le_of_ble_eq_true rfl) ?_
  refine x_aload_n (M := M_X7_addSigned) dX7_addSigned_0 rfl ?_
  refine x_getf (M := M_X7_addSigned) (ci := 10) (C := RX7) (T := TX7) (N := 5) (ty := tyX7) cl10 dX7_addSigned_1 o7127 4 (by decide) t_551 (v := .ref 273) rfl ?_
  refine x_iload_n (M := M_X7_addSigned) dX7_addSigned_4 rfl ?_
  refine x_iald (M := M_X7_addSigned) dX7_addSigned_5 o7128 (vp_inD (by decide +kernel)) ?_
  refine x_top (M := M_X7_addSigned) (y := (Int32.ofInt 0)) (by decide +kernel) ?_
  refine x_iload (M := M_X7_addSigned) dX7_addSigned_6 rfl ?_
  refine x_imul (M := M_X7_addSigned) dX7_addSigned_8 ?_
  refine x_top (M := M_X7_addSigned) (y := (Int32.ofInt 0)) (by decide +kernel) ?_
  refine x_istore (M := M_X7_addSigned) dX7_addSigned_9 (Nat.le_of_ble_eq_true rfl) rfl ?_
  refine x_aload_n (M := M_X7_addSigned) dX7_addSigned_11 rfl ?_
  refine x_getf (M := M_X7_addSigned) (ci := 10) (C := RX7) (T := TX7) (N := 5) (ty := tyX7) cl10 dX7_addSigned_12 o7127 4 (by decide) t_551 (v := .ref 273) rfl ?_
  refine x_iload_n (M := M_X7_addSigned) dX7_addSigned_15 rfl ?_
  refine x_iald (M := M_X7_addSigned) dX7_addSigned_16 o7128 (vp_inD (by decide +kernel)) ?_
  refine x_top (M := M_X7_addSigned) (y := (Int32.ofInt 0)) (by decide +kernel) ?_
  refine x_iload (M := M_X7_addSigned) dX7_addSigned_17 rfl ?_
  refine x_imul (M := M_X7_addSigned) dX7_addSigned_19 ?_
  refine x_if_lt (M := M_X7_addSigned) (tgt := 64) dX7_addSigned_20 (by decide) (fun q => absurd q (by decide +kernel)) (fun _ => ?_)
  refine x_aload_n (M := M_X7_addSigned) dX7_addSigned_23 rfl ?_
  refine x_getf (M := M_X7_addSigned) (ci := 10) (C := RX7) (T := TX7) (N := 5) (ty := tyX7) cl10 dX7_addSigned_24 o7127 4 (by decide) t_551 (v := .ref 273) rfl ?_
  refine x_iload_n (M := M_X7_addSigned) dX7_addSigned_27 rfl ?_
  refine x_iald (M := M_X7_addSigned) dX7_addSigned_28 o7128 (vp_inD (by decide +kernel)) ?_
  refine x_top (M := M_X7_addSigned) (y := (Int32.ofInt 0)) (by decide +kernel) ?_
  refine x_if_eq (M := M_X7_addSigned) (tgt := 41) dX7_addSigned_29 (by decide) (fun _ => ?_) (fun q => absurd q (by decide +kernel))
  refine x_iload (M := M_X7_addSigned) dX7_addSigned_41 rfl ?_
  refine x_istore (M := M_X7_addSigned) dX7_addSigned_43 (Nat.le_of_ble_eq_true rfl) rfl ?_
  refine x_aload_n (M := M_X7_addSigned) dX7_addSigned_45 rfl ?_
  refine x_iload_n (M := M_X7_addSigned) dX7_addSigned_46 rfl ?_
  refine x_iload_n (M := M_X7_addSigned) dX7_addSigned_47 rfl ?_
  refine x_iload_n (M := M_X7_addSigned) dX7_addSigned_48 rfl ?_
  refine x_iconst (M := M_X7_addSigned) dX7_addSigned_49 ?_
  refine y_callVR (M := M_X7_addSigned) (M' := M_X7_addLimbs) rfl rfl dX7_addSigned_50 m_X7_addLimbs t_2347 t_2349 s_152 (q7143 hl o7127 o7144 o7145 o7146) rfl rfl o7127 rfl (Nat.le_of_ble_eq_true rfl) (Nat.le_of_ble_eq_true rfl) (Nat.le_of_ble_eq_true rfl) (Nat.le_of_ble_eq_true rfl) (fun h7147 f7148 w7149 => ?_)
  obtain ⟨o7150, o7151, -⟩ := w7149
  refine x_aload_n (M := M_X7_addSigned) dX7_addSigned_53 rfl ?_
  have o7152 := (f7148 252 _ (by decide) o7127)
  refine x_getf (M := M_X7_addSigned) (ci := 10) (C := RX7) (T := TX7) (N := 5) (ty := tyX7) cl10 dX7_addSigned_54 o7152 4 (by decide) t_551 (v := .ref 273) rfl ?_
  refine x_iload_n (M := M_X7_addSigned) dX7_addSigned_57 rfl ?_
  refine x_iload (M := M_X7_addSigned) dX7_addSigned_58 rfl ?_
  have o7153 := (f7148 273 _ (by decide) o7128)
  refine y_iast (M := M_X7_addSigned) (k := 5) dX7_addSigned_60 o7153 (vp_inD (by decide +kernel)) (by decide +kernel) (fun h7154 w7155 f7156 => ?_)
  have w7157 : ob h7154 273 = some (.inl (0, 16, .inl (fun _ => 0))) := by rw [w7155, up_z (k := 5)]
  refine x_goto (M := M_X7_addSigned) (tgt := 112) dX7_addSigned_61 (by decide) ?_
  refine x_aload_n (M := M_X7_addSigned) dX7_addSigned_112 rfl ?_
  refine x_iload_n (M := M_X7_addSigned) dX7_addSigned_113 rfl ?_
  have o7175 := (f7156 252 _ (by decide) o7152)
  have o7176 := (f7156 272 _ (by decide) o7151)
  have o7177 := (f7156 255 _ (by decide) (f7148 255 _ (by decide) o7145))
  have o7178 := (f7156 261 _ (by decide) o7150)
  refine y_callVR (M := M_X7_addSigned) (M' := M_X7_trim) rfl rfl dX7_addSigned_114 m_X7_trim t_2339 t_2341 s_150 (q7174 hl o7175 o7176 o7177 o7178 w7157) rfl rfl o7175 rfl (Nat.le_of_ble_eq_true rfl) (Nat.le_of_ble_eq_true rfl) (Nat.le_of_ble_eq_true rfl) (Nat.le_of_ble_eq_true rfl) (fun h7179 f7180 w7181 => ?_)
  obtain ⟨o7182, o7183, -⟩ := w7181
  have o7184 := (f7180 261 _ (by decide) o7178)
  exact x_vret (M := M_X7_addSigned) dX7_addSigned_117 rfl ⟨rfl, (fr_tr f7180 (by decide) (fr_tr f7156 (by decide) (fr_tr f7148 (by decide) fr_rf))), ⟨o7184, o7182, o7183, trivial⟩⟩ (Nat.le_of_ble_eq_true rfl) (Nat.le_of_ble_eq_true rfl)
set_option maxRecDepth 10000 in
theorem q7198 {l : Launch} {E : EE} (hl : l.stackTraces = false) {h : HP} (o7106 : ob h 252 = some (.inr (10, [.ref 253, .ref 254, .ref 255, .ref 272, .ref 273]))) (o7107 : ob h 255 = some (.inl (5, 16, .inr (.inr (.inr (.inr (fun i => if i < 16 then some (255 + 1 + i) else none))))))) (o7108 : ob h 256 = some (.inl (0, 280, .inl (fun _ => 0)))) (o7109 : ob h 272 = some (.inl (0, 16, .inl (fun _ => 0)))) (o7110 : ob h 273 = some (.inl (0, 16, .inl (fun _ => 0)))) (o7119 : ob h 257 = some (.inl (0, 280, .inl (fun _ => 0)))) (o7188 : ob h 261 = some (.inl (0, 280, .inl (fun _ => 0)))) : en_C l E M_X7_difference 3 0 0 [.ref 252, .int (Int32.ofInt 5), .long (Int64.ofInt 0), .long (Int64.ofInt 0)] h (pF none [256, 272, 273, 257, 261] h (fun h' => ob h' 256 = some (.inl (0, 280, .inl (fun _ => 0))) ∧ ob h' 272 = some (.inl (0, 16, .inl (fun _ => 0))) ∧ ob h' 273 = some (.inl (0, 16, .inl (fun _ => 0))) ∧ ob h' 257 = some (.inl (0, 280, .inl (fun _ => 0))) ∧ ob h' 261 = some (.inl (0, 280, .inl (fun _ => 0))) ∧ True)) := by
  refine en_mk m_X7_difference rfl hl (Nat.le_of_ble_eq_true rfl) ?_
  refine x_aload_n (M := M_X7_difference) dX7_difference_0 rfl ?_
  refine x_iconst (M := M_X7_difference) dX7_difference_1 ?_
  refine x_lload_n (M := M_X7_difference) dX7_difference_2 rfl ?_
  refine y_callVR (M := M_X7_difference) (M' := M_X7_load) rfl rfl dX7_difference_3 m_X7_load t_2331 t_2333 s_149 (q6684 hl o7106 o7107 o7108 o7109 o7110) rfl rfl o7106 rfl (Nat.le_of_ble_eq_true rfl) (Nat.le_of_ble_eq_true rfl) (Nat.le_of_ble_eq_true rfl) (Nat.le_of_ble_eq_true rfl) (fun h7111 f7112 w7113 => ?_)
  obtain ⟨o7114, o7115, o7116, -⟩ := w7113
  refine x_aload_n (M := M_X7_difference) dX7_difference_6 rfl ?_
  refine x_iconst (M := M_X7_difference) dX7_difference_7 ?_
  refine x_lload (M := M_X7_difference) dX7_difference_8 rfl ?_
  have o7117 := (f7112 252 _ (by decide) o7106)
  have o7118 := (f7112 255 _ (by decide) o7107)
  have o7120 := (f7112 257 _ (by decide) o7119)
  refine y_callVR (M := M_X7_difference) (M' := M_X7_load) rfl rfl dX7_difference_10 m_X7_load t_2331 t_2333 s_149 (q6788 hl o7117 o7118 o7120 o7115 o7116) rfl rfl o7117 rfl (Nat.le_of_ble_eq_true rfl) (Nat.le_of_ble_eq_true rfl) (Nat.le_of_ble_eq_true rfl) (Nat.le_of_ble_eq_true rfl) (fun h7121 f7122 w7123 => ?_)
  obtain ⟨o7124, o7125, o7126, -⟩ := w7123
  refine x_aload_n (M := M_X7_difference) dX7_difference_13 rfl ?_
  refine x_iload_n (M := M_X7_difference) dX7_difference_14 rfl ?_
  refine x_iconst (M := M_X7_difference) dX7_difference_15 ?_
  refine x_iconst (M := M_X7_difference) dX7_difference_16 ?_
  refine x_iconst (M := M_X7_difference) dX7_difference_17 ?_
  have o7186 := (f7122 252 _ (by decide) o7117)
  have o7187 := (f7122 255 _ (by decide) o7118)
  have o7189 := (f7122 261 _ (by decide) (f7112 261 _ (by decide) o7188))
  refine y_callVR (M := M_X7_difference) (M' := M_X7_addSigned) rfl rfl dX7_difference_18 m_X7_addSigned t_2343 t_2345 s_151 (q7185 hl o7186 o7126 o7125 o7187 o7189) rfl rfl o7186 rfl (Nat.le_of_ble_eq_true rfl) (Nat.le_of_ble_eq_true rfl) (Nat.le_of_ble_eq_true rfl) (Nat.le_of_ble_eq_true rfl) (fun h7190 f7191 w7192 => ?_)
  obtain ⟨o7193, o7194, o7195, -⟩ := w7192
  have o7196 := (f7191 256 _ (by decide) (f7122 256 _ (by decide) o7114))
  have o7197 := (f7191 257 _ (by decide) o7124)
  exact x_vret (M := M_X7_difference) dX7_difference_21 rfl ⟨rfl, (fr_tr f7191 (by decide) (fr_tr f7122 (by decide) (fr_tr f7112 (by decide) fr_rf))), ⟨o7196, o7194, o7195, o7197, o7193, trivial⟩⟩ (Nat.le_of_ble_eq_true rfl) (Nat.le_of_ble_eq_true rfl)
set_option maxRecDepth 10000 in
theorem q7214 {l : Launch} {E : EE} (hl : l.stackTraces = false) {h : HP} : en_C l E M_J7_rangeCheck_23922 0 0 0 [.int (Int32.ofInt 280), .int (Int32.ofInt 0), .int (Int32.ofInt 0)] h (pR none h) := by
  refine en_mk m_J7_rangeCheck_23922 rfl hl (Nat.le_of_ble_eq_true rfl) ?_
  refine x_iload_n (M := M_J7_rangeCheck_23922) dJ7_rangeCheck_23922_0 rfl ?_
  refine x_iload_n (M := M_J7_rangeCheck_23922) dJ7_rangeCheck_23922_1 rfl ?_
  refine x_icmp_le (M := M_J7_rangeCheck_23922) (tgt := 46) dJ7_rangeCheck_23922_2 (by decide) (fun _ => ?_) (fun q => absurd q (by decide +kernel))
  refine x_iload_n (M := M_J7_rangeCheck_23922) dJ7_rangeCheck_23922_46 rfl ?_
  refine x_if_ge (M := M_J7_rangeCheck_23922) (tgt := 59) dJ7_rangeCheck_23922_47 (by decide) (fun _ => ?_) (fun q => absurd q (by decide +kernel))
  refine x_iload_n (M := M_J7_rangeCheck_23922) dJ7_rangeCheck_23922_59 rfl ?_
  refine x_iload_n (M := M_J7_rangeCheck_23922) dJ7_rangeCheck_23922_60 rfl ?_
  refine x_icmp_le (M := M_J7_rangeCheck_23922) (tgt := 73) dJ7_rangeCheck_23922_61 (by decide) (fun _ => ?_) (fun q => absurd q (by decide +kernel))
  exact x_vret (M := M_J7_rangeCheck_23922) dJ7_rangeCheck_23922_73 rfl ⟨rfl, rfl⟩ (Nat.le_of_ble_eq_true rfl) (Nat.le_of_ble_eq_true rfl)
set_option maxRecDepth 10000 in
theorem q7215 {l : Launch} {E : EE} (hl : l.stackTraces = false) {h : HP} (o7213 : ob h 262 = some (.inl (0, 280, .inl (fun _ => 0)))) : en_C l E M_J7_fill_fda19 1 0 0 [.ref 262, .int (Int32.ofInt 0), .int (Int32.ofInt 0), .int (Int32.ofInt 0)] h (pR none h) := by
  refine en_mk m_J7_fill_fda19 rfl hl (Nat.le_of_ble_eq_true rfl) ?_
  refine x_aload_n (M := M_J7_fill_fda19) dJ7_fill_fda19_0 rfl ?_
  refine x_alen (M := M_J7_fill_fda19) dJ7_fill_fda19_1 o7213 (by decide) ?_
  refine x_iload_n (M := M_J7_fill_fda19) dJ7_fill_fda19_2 rfl ?_
  refine x_iload_n (M := M_J7_fill_fda19) dJ7_fill_fda19_3 rfl ?_
  refine x_norm (M := M_J7_fill_fda19) (st' := [.int (Int32.ofInt 0), .int (Int32.ofInt 0), .int (Int32.ofInt 280)]) rfl (v_cons (v_cons (vi_cons (by decide +kernel : (Int32.ofNat 280) = (Int32.ofInt 280)) rfl))) rfl rfl rfl ?_
  refine x_callSR (M := M_J7_fill_fda19) (M' := M_J7_rangeCheck_23922) rfl rfl dJ7_fill_fda19_4 m_J7_rangeCheck_23922 t_1524 t_1525 (q7214 hl) rfl rfl (Nat.le_of_ble_eq_true rfl) (Nat.le_of_ble_eq_true rfl) (Nat.le_of_ble_eq_true rfl) (Nat.le_of_ble_eq_true rfl) ?_
  refine x_iload_n (M := M_J7_fill_fda19) dJ7_fill_fda19_7 rfl ?_
  refine x_istore (M := M_J7_fill_fda19) dJ7_fill_fda19_8 (Nat.le_of_ble_eq_true rfl) rfl ?_
  refine x_iload (M := M_J7_fill_fda19) dJ7_fill_fda19_10 rfl ?_
  refine x_iload_n (M := M_J7_fill_fda19) dJ7_fill_fda19_12 rfl ?_
  refine x_icmp_ge (M := M_J7_fill_fda19) (tgt := 27) dJ7_fill_fda19_13 (by decide) (fun _ => ?_) (fun q => absurd q (by decide +kernel))
  exact x_vret (M := M_J7_fill_fda19) dJ7_fill_fda19_27 rfl ⟨rfl, rfl⟩ (Nat.le_of_ble_eq_true rfl) (Nat.le_of_ble_eq_true rfl)
set_option maxRecDepth 10000 in
theorem q7235 {l : Launch} {E : EE} (hl : l.stackTraces = false) {h : HP} (o7228 : ob h 252 = some (.inr (10, [.ref 253, .ref 254, .ref 255, .ref 272, .ref 273]))) (o7229 : ob h 272 = some (.inl (0, 16, .inl (fun _ => 0)))) (o7230 : ob h 273 = some (.inl (0, 16, .inl (fun _ => 0)))) : en_C l E M_X7_trim 0 0 0 [.ref 252, .int (Int32.ofInt 6)] h (pF none [273] h (fun h' => ob h' 273 = some (.inl (0, 16, .inl (fun _ => 0))) ∧ True)) := by
  refine en_mk m_X7_trim rfl hl (Nat.le_of_ble_eq_true rfl) ?_
  refine x_aload_n (M := M_X7_trim) dX7_trim_0 rfl ?_
  refine x_getf (M := M_X7_trim) (ci := 10) (C := RX7) (T := TX7) (N := 5) (ty := tyX7) cl10 dX7_trim_1 o7228 3 (by decide) t_550 (v := .ref 272) rfl ?_
  refine x_iload_n (M := M_X7_trim) dX7_trim_4 rfl ?_
  refine x_iald (M := M_X7_trim) dX7_trim_5 o7229 (vp_inD (by decide +kernel)) ?_
  refine x_top (M := M_X7_trim) (y := (Int32.ofInt 0)) (by decide +kernel) ?_
  refine x_if_le (M := M_X7_trim) (tgt := 40) dX7_trim_6 (by decide) (fun _ => ?_) (fun q => absurd q (by decide +kernel))
  refine x_aload_n (M := M_X7_trim) dX7_trim_40 rfl ?_
  refine x_getf (M := M_X7_trim) (ci := 10) (C := RX7) (T := TX7) (N := 5) (ty := tyX7) cl10 dX7_trim_41 o7228 3 (by decide) t_550 (v := .ref 272) rfl ?_
  refine x_iload_n (M := M_X7_trim) dX7_trim_44 rfl ?_
  refine x_iald (M := M_X7_trim) dX7_trim_45 o7229 (vp_inD (by decide +kernel)) ?_
  refine x_top (M := M_X7_trim) (y := (Int32.ofInt 0)) (by decide +kernel) ?_
  refine x_if_ne (M := M_X7_trim) (tgt := 56) dX7_trim_46 (by decide) (fun q => absurd q (by decide +kernel)) (fun _ => ?_)
  refine x_aload_n (M := M_X7_trim) dX7_trim_49 rfl ?_
  refine x_getf (M := M_X7_trim) (ci := 10) (C := RX7) (T := TX7) (N := 5) (ty := tyX7) cl10 dX7_trim_50 o7228 4 (by decide) t_551 (v := .ref 273) rfl ?_
  refine x_iload_n (M := M_X7_trim) dX7_trim_53 rfl ?_
  refine x_iconst (M := M_X7_trim) dX7_trim_54 ?_
  refine y_iast (M := M_X7_trim) (k := 6) dX7_trim_55 o7230 (vp_inD (by decide +kernel)) (by decide +kernel) (fun h7231 w7232 f7233 => ?_)
  have w7234 : ob h7231 273 = some (.inl (0, 16, .inl (fun _ => 0))) := by rw [w7232, up_z (k := 6)]
  exact x_vret (M := M_X7_trim) dX7_trim_56 rfl ⟨rfl, (fr_tr f7233 (by decide) fr_rf), ⟨w7234, trivial⟩⟩ (Nat.le_of_ble_eq_true rfl) (Nat.le_of_ble_eq_true rfl)
set_option maxRecDepth 10000 in
theorem q7243 {l : Launch} {E : EE} (hl : l.stackTraces = false) {h : HP} (o7210 : ob h 252 = some (.inr (10, [.ref 253, .ref 254, .ref 255, .ref 272, .ref 273]))) (o7211 : ob h 272 = some (.inl (0, 16, .inl (fun _ => 0)))) (o7212 : ob h 255 = some (.inl (5, 16, .inr (.inr (.inr (.inr (fun i => if i < 16 then some (255 + 1 + i) else none))))))) (o7216 : ob h 262 = some (.inl (0, 280, .inl (fun _ => 0)))) (o7222 : ob h 273 = some (.inl (0, 16, .inl (fun _ => 0)))) : en_C l E M_X7_multiply 2 0 0 [.ref 252, .int (Int32.ofInt 6), .int (Int32.ofInt 2), .int (Int32.ofInt 3)] h (pF none [272, 273] h (fun h' => ob h' 272 = some (.inl (0, 16, .inl (fun _ => 0))) ∧ ob h' 273 = some (.inl (0, 16, .inl (fun _ => 0))) ∧ True)) := by
  refine en_mk m_X7_multiply rfl hl (Nat.le_of_ble_eq_true rfl) ?_
  refine x_aload_n (M := M_X7_multiply) dX7_multiply_0 rfl ?_
  refine x_getf (M := M_X7_multiply) (ci := 10) (C := RX7) (T := TX7) (N := 5) (ty := tyX7) cl10 dX7_multiply_1 o7210 3 (by decide) t_550 (v := .ref 272) rfl ?_
  refine x_iload_n (M := M_X7_multiply) dX7_multiply_4 rfl ?_
  refine x_iald (M := M_X7_multiply) dX7_multiply_5 o7211 (vp_inD (by decide +kernel)) ?_
  refine x_top (M := M_X7_multiply) (y := (Int32.ofInt 0)) (by decide +kernel) ?_
  refine x_aload_n (M := M_X7_multiply) dX7_multiply_6 rfl ?_
  refine x_getf (M := M_X7_multiply) (ci := 10) (C := RX7) (T := TX7) (N := 5) (ty := tyX7) cl10 dX7_multiply_7 o7210 3 (by decide) t_550 (v := .ref 272) rfl ?_
  refine x_iload_n (M := M_X7_multiply) dX7_multiply_10 rfl ?_
  refine x_iald (M := M_X7_multiply) dX7_multiply_11 o7211 (vp_inD (by decide +kernel)) ?_
  refine x_top (M := M_X7_multiply) (y := (Int32.ofInt 0)) (by decide +kernel) ?_
  refine x_iadd (M := M_X7_multiply) dX7_multiply_12 ?_
  refine x_sipush (M := M_X7_multiply) dX7_multiply_13 ?_
  refine x_mmin (M := M_X7_multiply) dX7_multiply_16 t_2351 t_626 t_20 t_627 (Nat.le_of_ble_eq_true rfl) (Nat.le_of_ble_eq_true rfl) (Nat.le_of_ble_eq_true rfl) (Nat.le_of_ble_eq_true rfl) ?_
  refine x_top (M := M_X7_multiply) (y := (Int32.ofInt 0)) (by decide +kernel) ?_
  refine x_istore (M := M_X7_multiply) dX7_multiply_19 (Nat.le_of_ble_eq_true rfl) rfl ?_
  refine x_aload_n (M := M_X7_multiply) dX7_multiply_21 rfl ?_
  refine x_getf (M := M_X7_multiply) (ci := 10) (C := RX7) (T := TX7) (N := 5) (ty := tyX7) cl10 dX7_multiply_22 o7210 2 (by decide) t_549 (v := .ref 255) rfl ?_
  refine x_iload_n (M := M_X7_multiply) dX7_multiply_25 rfl ?_
  refine x_gald (M := M_X7_multiply) (b := 262) dX7_multiply_26 o7212 (vp_inD (by decide +kernel)) (by decide +kernel) ?_
  refine x_iconst (M := M_X7_multiply) dX7_multiply_27 ?_
  refine x_iload (M := M_X7_multiply) dX7_multiply_28 rfl ?_
  refine x_iconst (M := M_X7_multiply) dX7_multiply_30 ?_
  refine x_callSR (M := M_X7_multiply) (M' := M_J7_fill_fda19) rfl rfl dX7_multiply_31 m_J7_fill_fda19 t_2337 t_1522 (q7215 hl o7216) rfl rfl (Nat.le_of_ble_eq_true rfl) (Nat.le_of_ble_eq_true rfl) (Nat.le_of_ble_eq_true rfl) (Nat.le_of_ble_eq_true rfl) ?_
  refine x_iconst (M := M_X7_multiply) dX7_multiply_34 ?_
  refine x_istore (M := M_X7_multiply) dX7_multiply_35 (Nat.le_of_ble_eq_true rfl) rfl ?_
  refine x_iload (M := M_X7_multiply) dX7_multiply_37 rfl ?_
  refine x_aload_n (M := M_X7_multiply) dX7_multiply_39 rfl ?_
  refine x_getf (M := M_X7_multiply) (ci := 10) (C := RX7) (T := TX7) (N := 5) (ty := tyX7) cl10 dX7_multiply_40 o7210 3 (by decide) t_550 (v := .ref 272) rfl ?_
  refine x_iload_n (M := M_X7_multiply) dX7_multiply_43 rfl ?_
  refine x_iald (M := M_X7_multiply) dX7_multiply_44 o7211 (vp_inD (by decide +kernel)) ?_
  refine x_top (M := M_X7_multiply) (y := (Int32.ofInt 0)) (by decide +kernel) ?_
  refine x_icmp_ge (M := M_X7_multiply) (tgt := 161) dX7_multiply_45 (by decide) (fun _ => ?_) (fun q => absurd q (by decide +kernel))
  refine x_aload_n (M := M_X7_multiply) dX7_multiply_161 rfl ?_
  refine x_getf (M := M_X7_multiply) (ci := 10) (C := RX7) (T := TX7) (N := 5) (ty := tyX7) cl10 dX7_multiply_162 o7210 3 (by decide) t_550 (v := .ref 272) rfl ?_
  refine x_iload_n (M := M_X7_multiply) dX7_multiply_165 rfl ?_
  refine x_iload (M := M_X7_multiply) dX7_multiply_166 rfl ?_
  refine y_iast (M := M_X7_multiply) (k := 6) dX7_multiply_168 o7211 (vp_inD (by decide +kernel)) (by decide +kernel) (fun h7217 w7218 f7219 => ?_)
  have w7220 : ob h7217 272 = some (.inl (0, 16, .inl (fun _ => 0))) := by rw [w7218, up_z (k := 6)]
  refine x_aload_n (M := M_X7_multiply) dX7_multiply_169 rfl ?_
  have o7221 := (f7219 252 _ (by decide) o7210)
  refine x_getf (M := M_X7_multiply) (ci := 10) (C := RX7) (T := TX7) (N := 5) (ty := tyX7) cl10 dX7_multiply_170 o7221 4 (by decide) t_551 (v := .ref 273) rfl ?_
  refine x_iload_n (M := M_X7_multiply) dX7_multiply_173 rfl ?_
  refine x_aload_n (M := M_X7_multiply) dX7_multiply_174 rfl ?_
  refine x_getf (M := M_X7_multiply) (ci := 10) (C := RX7) (T := TX7) (N := 5) (ty := tyX7) cl10 dX7_multiply_175 o7221 4 (by decide) t_551 (v := .ref 273) rfl ?_
  refine x_iload_n (M := M_X7_multiply) dX7_multiply_178 rfl ?_
  have o7223 := (f7219 273 _ (by decide) o7222)
  refine x_iald (M := M_X7_multiply) dX7_multiply_179 o7223 (vp_inD (by decide +kernel)) ?_
  refine x_top (M := M_X7_multiply) (y := (Int32.ofInt 0)) (by decide +kernel) ?_
  refine x_aload_n (M := M_X7_multiply) dX7_multiply_180 rfl ?_
  refine x_getf (M := M_X7_multiply) (ci := 10) (C := RX7) (T := TX7) (N := 5) (ty := tyX7) cl10 dX7_multiply_181 o7221 4 (by decide) t_551 (v := .ref 273) rfl ?_
  refine x_iload_n (M := M_X7_multiply) dX7_multiply_184 rfl ?_
  refine x_iald (M := M_X7_multiply) dX7_multiply_185 o7223 (vp_inD (by decide +kernel)) ?_
  refine x_top (M := M_X7_multiply) (y := (Int32.ofInt 0)) (by decide +kernel) ?_
  refine x_imul (M := M_X7_multiply) dX7_multiply_186 ?_
  refine x_norm (M := M_X7_multiply) (st' := [.int (Int32.ofInt 0), .int (Int32.ofInt 6), .ref 273]) rfl (vi_cons (by decide +kernel : ((Int32.ofInt 0) * (Int32.ofInt 0)) = (Int32.ofInt 0)) rfl) rfl rfl rfl ?_
  refine y_iast (M := M_X7_multiply) (k := 6) dX7_multiply_187 o7223 (vp_inD (by decide +kernel)) (by decide +kernel) (fun h7224 w7225 f7226 => ?_)
  have w7227 : ob h7224 273 = some (.inl (0, 16, .inl (fun _ => 0))) := by rw [w7225, up_z (k := 6)]
  refine x_aload_n (M := M_X7_multiply) dX7_multiply_188 rfl ?_
  refine x_iload_n (M := M_X7_multiply) dX7_multiply_189 rfl ?_
  have o7236 := (f7226 252 _ (by decide) o7221)
  have o7237 := (f7226 272 _ (by decide) w7220)
  refine y_callVR (M := M_X7_multiply) (M' := M_X7_trim) rfl rfl dX7_multiply_190 m_X7_trim t_2339 t_2341 s_150 (q7235 hl o7236 o7237 w7227) rfl rfl o7236 rfl (Nat.le_of_ble_eq_true rfl) (Nat.le_of_ble_eq_true rfl) (Nat.le_of_ble_eq_true rfl) (Nat.le_of_ble_eq_true rfl) (fun h7238 f7239 w7240 => ?_)
  obtain ⟨o7241, -⟩ := w7240
  have o7242 := (f7239 272 _ (by decide) o7237)
  exact x_vret (M := M_X7_multiply) dX7_multiply_193 rfl ⟨rfl, (fr_tr f7239 (by decide) (fr_tr f7226 (by decide) (fr_tr f7219 (by decide) fr_rf))), ⟨o7242, o7241, trivial⟩⟩ (Nat.le_of_ble_eq_true rfl) (Nat.le_of_ble_eq_true rfl)
set_option maxRecDepth 10000 in
theorem q7257 {l : Launch} {E : EE} (hl : l.stackTraces = false) {h : HP} (o7256 : ob h 263 = some (.inl (0, 280, .inl (fun _ => 0)))) : en_C l E M_J7_fill_fda19 1 0 0 [.ref 263, .int (Int32.ofInt 0), .int (Int32.ofInt 0), .int (Int32.ofInt 0)] h (pR none h) := by
  refine en_mk m_J7_fill_fda19 rfl hl (Nat.le_of_ble_eq_true rfl) ?_
  refine x_aload_n (M := M_J7_fill_fda19) dJ7_fill_fda19_0 rfl ?_
  refine x_alen (M := M_J7_fill_fda19) dJ7_fill_fda19_1 o7256 (by decide) ?_
  refine x_iload_n (M := M_J7_fill_fda19) dJ7_fill_fda19_2 rfl ?_
  refine x_iload_n (M := M_J7_fill_fda19) dJ7_fill_fda19_3 rfl ?_
  refine x_norm (M := M_J7_fill_fda19) (st' := [.int (Int32.ofInt 0), .int (Int32.ofInt 0), .int (Int32.ofInt 280)]) rfl (v_cons (v_cons (vi_cons (by decide +kernel : (Int32.ofNat 280) = (Int32.ofInt 280)) rfl))) rfl rfl rfl ?_
  refine x_callSR (M := M_J7_fill_fda19) (M' := M_J7_rangeCheck_23922) rfl rfl dJ7_fill_fda19_4 m_J7_rangeCheck_23922 t_1524 t_1525 (q7214 hl) rfl rfl (Nat.le_of_ble_eq_true rfl) (Nat.le_of_ble_eq_true rfl) (Nat.le_of_ble_eq_true rfl) (Nat.le_of_ble_eq_true rfl) ?_
  refine x_iload_n (M := M_J7_fill_fda19) dJ7_fill_fda19_7 rfl ?_
  refine x_istore (M := M_J7_fill_fda19) dJ7_fill_fda19_8 (Nat.le_of_ble_eq_true rfl) rfl ?_
  refine x_iload (M := M_J7_fill_fda19) dJ7_fill_fda19_10 rfl ?_
  refine x_iload_n (M := M_J7_fill_fda19) dJ7_fill_fda19_12 rfl ?_
  refine x_icmp_ge (M := M_J7_fill_fda19) (tgt := 27) dJ7_fill_fda19_13 (by decide) (fun _ => ?_) (fun q => absurd q (by decide +kernel))
  exact x_vret (M := M_J7_fill_fda19) dJ7_fill_fda19_27 rfl ⟨rfl, rfl⟩ (Nat.le_of_ble_eq_true rfl) (Nat.le_of_ble_eq_true rfl)
set_option maxRecDepth 10000 in
theorem q7277 {l : Launch} {E : EE} (hl : l.stackTraces = false) {h : HP} (o7270 : ob h 252 = some (.inr (10, [.ref 253, .ref 254, .ref 255, .ref 272, .ref 273]))) (o7271 : ob h 272 = some (.inl (0, 16, .inl (fun _ => 0)))) (o7272 : ob h 273 = some (.inl (0, 16, .inl (fun _ => 0)))) : en_C l E M_X7_trim 0 0 0 [.ref 252, .int (Int32.ofInt 7)] h (pF none [273] h (fun h' => ob h' 273 = some (.inl (0, 16, .inl (fun _ => 0))) ∧ True)) := by
  refine en_mk m_X7_trim rfl hl (Nat.le_of_ble_eq_true rfl) ?_
  refine x_aload_n (M := M_X7_trim) dX7_trim_0 rfl ?_
  refine x_getf (M := M_X7_trim) (ci := 10) (C := RX7) (T := TX7) (N := 5) (ty := tyX7) cl10 dX7_trim_1 o7270 3 (by decide) t_550 (v := .ref 272) rfl ?_
  refine x_iload_n (M := M_X7_trim) dX7_trim_4 rfl ?_
  refine x_iald (M := M_X7_trim) dX7_trim_5 o7271 (vp_inD (by decide +kernel)) ?_
  refine x_top (M := M_X7_trim) (y := (Int32.ofInt 0)) (by decide +kernel) ?_
  refine x_if_le (M := M_X7_trim) (tgt := 40) dX7_trim_6 (by decide) (fun _ => ?_) (fun q => absurd q (by decide +kernel))
  refine x_aload_n (M := M_X7_trim) dX7_trim_40 rfl ?_
  refine x_getf (M := M_X7_trim) (ci := 10) (C := RX7) (T := TX7) (N := 5) (ty := tyX7) cl10 dX7_trim_41 o7270 3 (by decide) t_550 (v := .ref 272) rfl ?_
  refine x_iload_n (M := M_X7_trim) dX7_trim_44 rfl ?_
  refine x_iald (M := M_X7_trim) dX7_trim_45 o7271 (vp_inD (by decide +kernel)) ?_
  refine x_top (M := M_X7_trim) (y := (Int32.ofInt 0)) (by decide +kernel) ?_
  refine x_if_ne (M := M_X7_trim) (tgt := 56) dX7_trim_46 (by decide) (fun q => absurd q (by decide +kernel)) (fun _ => ?_)
  refine x_aload_n (M := M_X7_trim) dX7_trim_49 rfl ?_
  refine x_getf (M := M_X7_trim) (ci := 10) (C := RX7) (T := TX7) (N := 5) (ty := tyX7) cl10 dX7_trim_50 o7270 4 (by decide) t_551 (v := .ref 273) rfl ?_
  refine x_iload_n (M := M_X7_trim) dX7_trim_53 rfl ?_
  refine x_iconst (M := M_X7_trim) dX7_trim_54 ?_
  refine y_iast (M := M_X7_trim) (k := 7) dX7_trim_55 o7272 (vp_inD (by decide +kernel)) (by decide +kernel) (fun h7273 w7274 f7275 => ?_)
  have w7276 : ob h7273 273 = some (.inl (0, 16, .inl (fun _ => 0))) := by rw [w7274, up_z (k := 7)]
  exact x_vret (M := M_X7_trim) dX7_trim_56 rfl ⟨rfl, (fr_tr f7275 (by decide) fr_rf), ⟨w7276, trivial⟩⟩ (Nat.le_of_ble_eq_true rfl) (Nat.le_of_ble_eq_true rfl)
set_option maxRecDepth 10000 in
theorem q7285 {l : Launch} {E : EE} (hl : l.stackTraces = false) {h : HP} (o7253 : ob h 252 = some (.inr (10, [.ref 253, .ref 254, .ref 255, .ref 272, .ref 273]))) (o7254 : ob h 272 = some (.inl (0, 16, .inl (fun _ => 0)))) (o7255 : ob h 255 = some (.inl (5, 16, .inr (.inr (.inr (.inr (fun i => if i < 16 then some (255 + 1 + i) else none))))))) (o7258 : ob h 263 = some (.inl (0, 280, .inl (fun _ => 0)))) (o7264 : ob h 273 = some (.inl (0, 16, .inl (fun _ => 0)))) : en_C l E M_X7_multiply 2 0 0 [.ref 252, .int (Int32.ofInt 7), .int (Int32.ofInt 4), .int (Int32.ofInt 5)] h (pF none [272, 273] h (fun h' => ob h' 272 = some (.inl (0, 16, .inl (fun _ => 0))) ∧ ob h' 273 = some (.inl (0, 16, .inl (fun _ => 0))) ∧ True)) := by
  refine en_mk m_X7_multiply rfl hl (Nat.le_of_ble_eq_true rfl) ?_
  refine x_aload_n (M := M_X7_multiply) dX7_multiply_0 rfl ?_
  refine x_getf (M := M_X7_multiply) (ci := 10) (C := RX7) (T := TX7) (N := 5) (ty := tyX7) cl10 dX7_multiply_1 o7253 3 (by decide) t_550 (v := .ref 272) rfl ?_
  refine x_iload_n (M := M_X7_multiply) dX7_multiply_4 rfl ?_
  refine x_iald (M := M_X7_multiply) dX7_multiply_5 o7254 (vp_inD (by decide +kernel)) ?_
  refine x_top (M := M_X7_multiply) (y := (Int32.ofInt 0)) (by decide +kernel) ?_
  refine x_aload_n (M := M_X7_multiply) dX7_multiply_6 rfl ?_
  refine x_getf (M := M_X7_multiply) (ci := 10) (C := RX7) (T := TX7) (N := 5) (ty := tyX7) cl10 dX7_multiply_7 o7253 3 (by decide) t_550 (v := .ref 272) rfl ?_
  refine x_iload_n (M := M_X7_multiply) dX7_multiply_10 rfl ?_
  refine x_iald (M := M_X7_multiply) dX7_multiply_11 o7254 (vp_inD (by decide +kernel)) ?_
  refine x_top (M := M_X7_multiply) (y := (Int32.ofInt 0)) (by decide +kernel) ?_
  refine x_iadd (M := M_X7_multiply) dX7_multiply_12 ?_
  refine x_sipush (M := M_X7_multiply) dX7_multiply_13 ?_
  refine x_mmin (M := M_X7_multiply) dX7_multiply_16 t_2351 t_626 t_20 t_627 (Nat.le_of_ble_eq_true rfl) (Nat.le_of_ble_eq_true rfl) (Nat.le_of_ble_eq_true rfl) (Nat.le_of_ble_eq_true rfl) ?_
  refine x_top (M := M_X7_multiply) (y := (Int32.ofInt 0)) (by decide +kernel) ?_
  refine x_istore (M := M_X7_multiply) dX7_multiply_19 (Nat.le_of_ble_eq_true rfl) rfl ?_
  refine x_aload_n (M := M_X7_multiply) dX7_multiply_21 rfl ?_
  refine x_getf (M := M_X7_multiply) (ci := 10) (C := RX7) (T := TX7) (N := 5) (ty := tyX7) cl10 dX7_multiply_22 o7253 2 (by decide) t_549 (v := .ref 255) rfl ?_
  refine x_iload_n (M := M_X7_multiply) dX7_multiply_25 rfl ?_
  refine x_gald (M := M_X7_multiply) (b := 263) dX7_multiply_26 o7255 (vp_inD (by decide +kernel)) (by decide +kernel) ?_
  refine x_iconst (M := M_X7_multiply) dX7_multiply_27 ?_
  refine x_iload (M := M_X7_multiply) dX7_multiply_28 rfl ?_
  refine x_iconst (M := M_X7_multiply) dX7_multiply_30 ?_
  refine x_callSR (M := M_X7_multiply) (M' := M_J7_fill_fda19) rfl rfl dX7_multiply_31 m_J7_fill_fda19 t_2337 t_1522 (q7257 hl o7258) rfl rfl (Nat.le_of_ble_eq_true rfl) (Nat.le_of_ble_eq_true rfl) (Nat.le_of_ble_eq_true rfl) (Nat.le_of_ble_eq_true rfl) ?_
  refine x_iconst (M := M_X7_multiply) dX7_multiply_34 ?_
  refine x_istore (M := M_X7_multiply) dX7_multiply_35 (Nat.le_of_ble_eq_true rfl) rfl ?_
  refine x_iload (M := M_X7_multiply) dX7_multiply_37 rfl ?_
  refine x_aload_n (M := M_X7_multiply) dX7_multiply_39 rfl ?_
  refine x_getf (M := M_X7_multiply) (ci := 10) (C := RX7) (T := TX7) (N := 5) (ty := tyX7) cl10 dX7_multiply_40 o7253 3 (by decide) t_550 (v := .ref 272) rfl ?_
  refine x_iload_n (M := M_X7_multiply) dX7_multiply_43 rfl ?_
  refine x_iald (M := M_X7_multiply) dX7_multiply_44 o7254 (vp_inD (by decide +kernel)) ?_
  refine x_top (M := M_X7_multiply) (y := (Int32.ofInt 0)) (by decide +kernel) ?_
  refine x_icmp_ge (M := M_X7_multiply) (tgt := 161) dX7_multiply_45 (by decide) (fun _ => ?_) (fun q => absurd q (by decide +kernel))
  refine x_aload_n (M := M_X7_multiply) dX7_multiply_161 rfl ?_
  refine x_getf (M := M_X7_multiply) (ci := 10) (C := RX7) (T := TX7) (N := 5) (ty := tyX7) cl10 dX7_multiply_162 o7253 3 (by decide) t_550 (v := .ref 272) rfl ?_
  refine x_iload_n (M := M_X7_multiply) dX7_multiply_165 rfl ?_
  refine x_iload (M := M_X7_multiply) dX7_multiply_166 rfl ?_
  refine y_iast (M := M_X7_multiply) (k := 7) dX7_multiply_168 o7254 (vp_inD (by decide +kernel)) (by decide +kernel) (fun h7259 w7260 f7261 => ?_)
  have w7262 : ob h7259 272 = some (.inl (0, 16, .inl (fun _ => 0))) := by rw [w7260, up_z (k := 7)]
  refine x_aload_n (M := M_X7_multiply) dX7_multiply_169 rfl ?_
  have o7263 := (f7261 252 _ (by decide) o7253)
  refine x_getf (M := M_X7_multiply) (ci := 10) (C := RX7) (T := TX7) (N := 5) (ty := tyX7) cl10 dX7_multiply_170 o7263 4 (by decide) t_551 (v := .ref 273) rfl ?_
  refine x_iload_n (M := M_X7_multiply) dX7_multiply_173 rfl ?_
  refine x_aload_n (M := M_X7_multiply) dX7_multiply_174 rfl ?_
  refine x_getf (M := M_X7_multiply) (ci := 10) (C := RX7) (T := TX7) (N := 5) (ty := tyX7) cl10 dX7_multiply_175 o7263 4 (by decide) t_551 (v := .ref 273) rfl ?_
  refine x_iload_n (M := M_X7_multiply) dX7_multiply_178 rfl ?_
  have o7265 := (f7261 273 _ (by decide) o7264)
  refine x_iald (M := M_X7_multiply) dX7_multiply_179 o7265 (vp_inD (by decide +kernel)) ?_
  refine x_top (M := M_X7_multiply) (y := (Int32.ofInt 0)) (by decide +kernel) ?_
  refine x_aload_n (M := M_X7_multiply) dX7_multiply_180 rfl ?_
  refine x_getf (M := M_X7_multiply) (ci := 10) (C := RX7) (T := TX7) (N := 5) (ty := tyX7) cl10 dX7_multiply_181 o7263 4 (by decide) t_551 (v := .ref 273) rfl ?_
  refine x_iload_n (M := M_X7_multiply) dX7_multiply_184 rfl ?_
  refine x_iald (M := M_X7_multiply) dX7_multiply_185 o7265 (vp_inD (by decide +kernel)) ?_
  refine x_top (M := M_X7_multiply) (y := (Int32.ofInt 0)) (by decide +kernel) ?_
  refine x_imul (M := M_X7_multiply) dX7_multiply_186 ?_
  refine x_norm (M := M_X7_multiply) (st' := [.int (Int32.ofInt 0), .int (Int32.ofInt 7), .ref 273]) rfl (vi_cons (by decide +kernel : ((Int32.ofInt 0) * (Int32.ofInt 0)) = (Int32.ofInt 0)) rfl) rfl rfl rfl ?_
  refine y_iast (M := M_X7_multiply) (k := 7) dX7_multiply_187 o7265 (vp_inD (by decide +kernel)) (by decide +kernel) (fun h7266 w7267 f7268 => ?_)
  have w7269 : ob h7266 273 = some (.inl (0, 16, .inl (fun _ => 0))) := by rw [w7267, up_z (k := 7)]
  refine x_aload_n (M := M_X7_multiply) dX7_multiply_188 rfl ?_
  refine x_iload_n (M := M_X7_multiply) dX7_multiply_189 rfl ?_
  have o7278 := (f7268 252 _ (by decide) o7263)
  have o7279 := (f7268 272 _ (by decide) w7262)
  refine y_callVR (M := M_X7_multiply) (M' := M_X7_trim) rfl rfl dX7_multiply_190 m_X7_trim t_2339 t_2341 s_150 (q7277 hl o7278 o7279 w7269) rfl rfl o7278 rfl (Nat.le_of_ble_eq_true rfl) (Nat.le_of_ble_eq_true rfl) (Nat.le_of_ble_eq_true rfl) (Nat.le_of_ble_eq_true rfl) (fun h7280 f7281 w7282 => ?_)
  obtain ⟨o7283, -⟩ := w7282
  have o7284 := (f7281 272 _ (by decide) o7279)
  exact x_vret (M := M_X7_multiply) dX7_multiply_193 rfl ⟨rfl, (fr_tr f7281 (by decide) (fr_tr f7268 (by decide) (fr_tr f7261 (by decide) fr_rf))), ⟨o7284, o7283, trivial⟩⟩ (Nat.le_of_ble_eq_true rfl) (Nat.le_of_ble_eq_true rfl)
set_option maxRecDepth 10000 in
theorem q7301 {l : Launch} {E : EE} (hl : l.stackTraces = false) {h : HP} (o7299 : ob h 252 = some (.inr (10, [.ref 253, .ref 254, .ref 255, .ref 272, .ref 273]))) (o7300 : ob h 272 = some (.inl (0, 16, .inl (fun _ => 0)))) : en_C l E M_X7_limbAt 0 0 0 [.ref 252, .int (Int32.ofInt 6), .int (Int32.ofInt 0)] h (pR (some (.long (Int64.ofInt 0))) h) := by
  refine en_mk m_X7_limbAt rfl hl (Nat.le_of_ble_eq_true rfl) ?_
  refine x_iload_n (M := M_X7_limbAt) dX7_limbAt_0 rfl ?_
  refine x_aload_n (M := M_X7_limbAt) dX7_limbAt_1 rfl ?_
  refine x_getf (M := M_X7_limbAt) (ci := 10) (C := RX7) (T := TX7) (N := 5) (ty := tyX7) cl10 dX7_limbAt_2 o7299 3 (by decide) t_550 (v := .ref 272) rfl ?_
  refine x_iload_n (M := M_X7_limbAt) dX7_limbAt_5 rfl ?_
  refine x_iald (M := M_X7_limbAt) dX7_limbAt_6 o7300 (vp_inD (by decide +kernel)) ?_
  refine x_top (M := M_X7_limbAt) (y := (Int32.ofInt 0)) (by decide +kernel) ?_
  refine x_icmp_ge (M := M_X7_limbAt) (tgt := 26) dX7_limbAt_7 (by decide) (fun _ => ?_) (fun q => absurd q (by decide +kernel))
  refine x_lconst (M := M_X7_limbAt) dX7_limbAt_26 ?_
  refine x_topl (M := M_X7_limbAt) (y := (Int64.ofInt 0)) (by decide +kernel) ?_
  exact x_lret (M := M_X7_limbAt) dX7_limbAt_27 rfl ⟨rfl, rfl⟩ (Nat.le_of_ble_eq_true rfl) (Nat.le_of_ble_eq_true rfl)
set_option maxRecDepth 10000 in
theorem q7304 {l : Launch} {E : EE} (hl : l.stackTraces = false) {h : HP} (o7302 : ob h 252 = some (.inr (10, [.ref 253, .ref 254, .ref 255, .ref 272, .ref 273]))) (o7303 : ob h 272 = some (.inl (0, 16, .inl (fun _ => 0)))) : en_C l E M_X7_limbAt 0 0 0 [.ref 252, .int (Int32.ofInt 7), .int (Int32.ofInt 0)] h (pR (some (.long (Int64.ofInt 0))) h) := by
  refine en_mk m_X7_limbAt rfl hl (Nat.le_of_ble_eq_true rfl) ?_
  refine x_iload_n (M := M_X7_limbAt) dX7_limbAt_0 rfl ?_
  refine x_aload_n (M := M_X7_limbAt) dX7_limbAt_1 rfl ?_
  refine x_getf (M := M_X7_limbAt) (ci := 10) (C := RX7) (T := TX7) (N := 5) (ty := tyX7) cl10 dX7_limbAt_2 o7302 3 (by decide) t_550 (v := .ref 272) rfl ?_
  refine x_iload_n (M := M_X7_limbAt) dX7_limbAt_5 rfl ?_
  refine x_iald (M := M_X7_limbAt) dX7_limbAt_6 o7303 (vp_inD (by decide +kernel)) ?_
  refine x_top (M := M_X7_limbAt) (y := (Int32.ofInt 0)) (by decide +kernel) ?_
  refine x_icmp_ge (M := M_X7_limbAt) (tgt := 26) dX7_limbAt_7 (by decide) (fun _ => ?_) (fun q => absurd q (by decide +kernel))
  refine x_lconst (M := M_X7_limbAt) dX7_limbAt_26 ?_
  refine x_topl (M := M_X7_limbAt) (y := (Int64.ofInt 0)) (by decide +kernel) ?_
  exact x_lret (M := M_X7_limbAt) dX7_limbAt_27 rfl ⟨rfl, rfl⟩ (Nat.le_of_ble_eq_true rfl) (Nat.le_of_ble_eq_true rfl)
set_option maxRecDepth 10000 in
theorem q7317 {l : Launch} {E : EE} (hl : l.stackTraces = false) {h : HP} (o7297 : ob h 252 = some (.inr (10, [.ref 253, .ref 254, .ref 255, .ref 272, .ref 273]))) (o7298 : ob h 272 = some (.inl (0, 16, .inl (fun _ => 0)))) (o7305 : ob h 255 = some (.inl (5, 16, .inr (.inr (.inr (.inr (fun i => if i < 16 then some (255 + 1 + i) else none))))))) (o7306 : ob h 264 = some (.inl (0, 280, .inl (fun _ => 0)))) : en_C l E M_X7_addLimbs 1 0 0 [.ref 252, .int (Int32.ofInt 8), .int (Int32.ofInt 6), .int (Int32.ofInt 7), .int (Int32.ofInt 1)] h (pF none [264, 272] h (fun h' => ob h' 264 = some (.inl (0, 280, .inl (fun _ => 0))) ∧ ob h' 272 = some (.inl (0, 16, .inl (upd (fun _ => 0) 8 (Int32.ofInt 1)))) ∧ True)) := by
  refine en_mk m_X7_addLimbs rfl hl (Nat.le_of_ble_eq_true rfl) ?_
  refine x_aload_n (M := M_X7_addLimbs) dX7_addLimbs_0 rfl ?_
  refine x_getf (M := M_X7_addLimbs) (ci := 10) (C := RX7) (T := TX7) (N := 5) (ty := tyX7) cl10 dX7_addLimbs_1 o7297 3 (by decide) t_550 (v := .ref 272) rfl ?_
  refine x_iload_n (M := M_X7_addLimbs) dX7_addLimbs_4 rfl ?_
  refine x_iald (M := M_X7_addLimbs) dX7_addLimbs_5 o7298 (vp_inD (by decide +kernel)) ?_
  refine x_top (M := M_X7_addLimbs) (y := (Int32.ofInt 0)) (by decide +kernel) ?_
  refine x_aload_n (M := M_X7_addLimbs) dX7_addLimbs_6 rfl ?_
  refine x_getf (M := M_X7_addLimbs) (ci := 10) (C := RX7) (T := TX7) (N := 5) (ty := tyX7) cl10 dX7_addLimbs_7 o7297 3 (by decide) t_550 (v := .ref 272) rfl ?_
  refine x_iload_n (M := M_X7_addLimbs) dX7_addLimbs_10 rfl ?_
  refine x_iald (M := M_X7_addLimbs) dX7_addLimbs_11 o7298 (vp_inD (by decide +kernel)) ?_
  refine x_top (M := M_X7_addLimbs) (y := (Int32.ofInt 0)) (by decide +kernel) ?_
  refine x_mmax (M := M_X7_addLimbs) dX7_addLimbs_12 t_2336 t_1013 t_20 t_1014 (Nat.le_of_ble_eq_true rfl) (Nat.le_of_ble_eq_true rfl) (Nat.le_of_ble_eq_true rfl) (Nat.le_of_ble_eq_true rfl) ?_
  refine x_top (M := M_X7_addLimbs) (y := (Int32.ofInt 0)) (by decide +kernel) ?_
  refine x_iconst (M := M_X7_addLimbs) dX7_addLimbs_15 ?_
  refine x_iadd (M := M_X7_addLimbs) dX7_addLimbs_16 ?_
  refine x_sipush (M := M_X7_addLimbs) dX7_addLimbs_17 ?_
  refine x_mmin (M := M_X7_addLimbs) dX7_addLimbs_20 t_2351 t_626 t_20 t_627 (Nat.le_of_ble_eq_true rfl) (Nat.le_of_ble_eq_true rfl) (Nat.le_of_ble_eq_true rfl) (Nat.le_of_ble_eq_true rfl) ?_
  refine x_top (M := M_X7_addLimbs) (y := (Int32.ofInt 1)) (by decide +kernel) ?_
  refine x_istore (M := M_X7_addLimbs) dX7_addLimbs_23 (Nat.le_of_ble_eq_true rfl) rfl ?_
  refine x_lconst (M := M_X7_addLimbs) dX7_addLimbs_25 ?_
  refine x_topl (M := M_X7_addLimbs) (y := (Int64.ofInt 0)) (by decide +kernel) ?_
  refine x_lstore (M := M_X7_addLimbs) dX7_addLimbs_26 (Nat.le_of_ble_eq_true rfl) rfl ?_
  refine x_iconst (M := M_X7_addLimbs) dX7_addLimbs_28 ?_
  refine x_istore (M := M_X7_addLimbs) dX7_addLimbs_29 (Nat.le_of_ble_eq_true rfl) rfl ?_
  refine x_iload (M := M_X7_addLimbs) dX7_addLimbs_31 rfl ?_
  refine x_iload (M := M_X7_addLimbs) dX7_addLimbs_33 rfl ?_
  refine x_icmp_ge (M := M_X7_addLimbs) (tgt := 87) dX7_addLimbs_35 (by decide) (fun q => absurd q (by decide +kernel)) (fun _ => ?_)
  refine x_aload_n (M := M_X7_addLimbs) dX7_addLimbs_38 rfl ?_
  refine x_iload_n (M := M_X7_addLimbs) dX7_addLimbs_39 rfl ?_
  refine x_iload (M := M_X7_addLimbs) dX7_addLimbs_40 rfl ?_
  refine x_callVR (M := M_X7_addLimbs) (M' := M_X7_limbAt) rfl rfl dX7_addLimbs_42 m_X7_limbAt t_2352 t_2354 s_153 (q7301 hl o7297 o7298) rfl rfl o7297 rfl (Nat.le_of_ble_eq_true rfl) (Nat.le_of_ble_eq_true rfl) (Nat.le_of_ble_eq_true rfl) (Nat.le_of_ble_eq_true rfl) ?_
  refine x_iload (M := M_X7_addLimbs) dX7_addLimbs_45 rfl ?_
  refine x_i2l (M := M_X7_addLimbs) dX7_addLimbs_47 ?_
  refine x_aload_n (M := M_X7_addLimbs) dX7_addLimbs_48 rfl ?_
  refine x_iload_n (M := M_X7_addLimbs) dX7_addLimbs_49 rfl ?_
  refine x_iload (M := M_X7_addLimbs) dX7_addLimbs_50 rfl ?_
  refine x_callVR (M := M_X7_addLimbs) (M' := M_X7_limbAt) rfl rfl dX7_addLimbs_52 m_X7_limbAt t_2352 t_2354 s_153 (q7304 hl o7297 o7298) rfl rfl o7297 rfl (Nat.le_of_ble_eq_true rfl) (Nat.le_of_ble_eq_true rfl) (Nat.le_of_ble_eq_true rfl) (Nat.le_of_ble_eq_true rfl) ?_
  refine x_lmul (M := M_X7_addLimbs) dX7_addLimbs_55 ?_
  refine x_ladd (M := M_X7_addLimbs) dX7_addLimbs_56 ?_
  refine x_lload (M := M_X7_addLimbs) dX7_addLimbs_57 rfl ?_
  refine x_ladd (M := M_X7_addLimbs) dX7_addLimbs_59 ?_
  refine x_topl (M := M_X7_addLimbs) (y := (Int64.ofInt 0)) (by decide +kernel) ?_
  refine x_lstore (M := M_X7_addLimbs) dX7_addLimbs_60 (Nat.le_of_ble_eq_true rfl) rfl ?_
  refine x_aload_n (M := M_X7_addLimbs) dX7_addLimbs_62 rfl ?_
  refine x_getf (M := M_X7_addLimbs) (ci := 10) (C := RX7) (T := TX7) (N := 5) (ty := tyX7) cl10 dX7_addLimbs_63 o7297 2 (by decide) t_549 (v := .ref 255) rfl ?_
  refine x_iload_n (M := M_X7_addLimbs) dX7_addLimbs_66 rfl ?_
  refine x_gald (M := M_X7_addLimbs) (b := 264) dX7_addLimbs_67 o7305 (vp_inD (by decide +kernel)) (by decide +kernel) ?_
  refine x_iload (M := M_X7_addLimbs) dX7_addLimbs_68 rfl ?_
  refine x_lload (M := M_X7_addLimbs) dX7_addLimbs_70 rfl ?_
  refine x_l2i (M := M_X7_addLimbs) dX7_addLimbs_72 ?_
  refine x_norm (M := M_X7_addLimbs) (st' := [.int (Int32.ofInt 0), .int (Int32.ofInt 0), .ref 264]) rfl (vi_cons (by decide +kernel : ((Int64.ofInt 0).toInt32) = (Int32.ofInt 0)) rfl) rfl rfl rfl ?_
  refine y_iast (M := M_X7_addLimbs) (k := 0) dX7_addLimbs_73 o7306 (vp_inD (by decide +kernel)) (by decide +kernel) (fun h7307 w7308 f7309 => ?_)
  have w7310 : ob h7307 264 = some (.inl (0, 280, .inl (fun _ => 0))) := by rw [w7308, up_z (k := 0)]
  refine x_lload (M := M_X7_addLimbs) dX7_addLimbs_74 rfl ?_
  refine x_bipush (M := M_X7_addLimbs) dX7_addLimbs_76 ?_
  refine x_lshr (M := M_X7_addLimbs) dX7_addLimbs_78 ?_
  refine x_topl (M := M_X7_addLimbs) (y := (Int64.ofInt 0)) (by decide +kernel) ?_
  refine x_lstore (M := M_X7_addLimbs) dX7_addLimbs_79 (Nat.le_of_ble_eq_true rfl) rfl ?_
  refine x_lvs (M := M_X7_addLimbs) (lv' := [some (.ref 252), some (.int (Int32.ofInt 8)), some (.int (Int32.ofInt 6)), some (.int (Int32.ofInt 7)), some (.int (Int32.ofInt 1)), some (.int (Int32.ofInt 1)), some (.long (Int64.ofInt 0)), none, some (.int (Int32.ofInt 0)), some (.long (Int64.ofInt 0)), none]) rfl ?_
  refine x_iinc (M := M_X7_addLimbs) dX7_addLimbs_81 rfl (Nat.le_of_ble_eq_true rfl) rfl ?_
  refine x_lvs (M := M_X7_addLimbs) (lv' := [some (.ref 252), some (.int (Int32.ofInt 8)), some (.int (Int32.ofInt 6)), some (.int (Int32.ofInt 7)), some (.int (Int32.ofInt 1)), some (.int (Int32.ofInt 1)), some (.long (Int64.ofInt 0)), none, some (.int (Int32.ofInt 1)), some (.long (Int64.ofInt 0)), none]) (by rw [(by decide +kernel : (Int32.ofInt 0) + Int32.ofInt 1 = (Int32.ofInt 1))] <;> rfl) ?_
  refine x_goto (M := M_X7_addLimbs) (tgt := 31) dX7_addLimbs_84 (by decide) ?_
  refine x_iload (M := M_X7_addLimbs) dX7_addLimbs_31 rfl ?_
  refine x_iload (M := M_X7_addLimbs) dX7_addLimbs_33 rfl ?_
  refine x_icmp_ge (M := M_X7_addLimbs) (tgt := 87) dX7_addLimbs_35 (by decide) (fun _ => ?_) (fun q => absurd q (by decide +kernel))
  refine x_aload_n (M := M_X7_addLimbs) dX7_addLimbs_87 rfl ?_
  have o7311 := (f7309 252 _ (by decide) o7297)
  refine x_getf (M := M_X7_addLimbs) (ci := 10) (C := RX7) (T := TX7) (N := 5) (ty := tyX7) cl10 dX7_addLimbs_88 o7311 3 (by decide) t_550 (v := .ref 272) rfl ?_
  refine x_iload_n (M := M_X7_addLimbs) dX7_addLimbs_91 rfl ?_
  refine x_iload (M := M_X7_addLimbs) dX7_addLimbs_92 rfl ?_
  have o7312 := (f7309 272 _ (by decide) o7298)
  refine y_iast (M := M_X7_addLimbs) (k := 8) dX7_addLimbs_94 o7312 (vp_inD (by decide +kernel)) (by decide +kernel) (fun h7313 w7314 f7315 => ?_)
  have o7316 := (f7315 264 _ (by decide) w7310)
  exact x_vret (M := M_X7_addLimbs) dX7_addLimbs_95 rfl ⟨rfl, (fr_tr f7315 (by decide) (fr_tr f7309 (by decide) fr_rf)), ⟨o7316, w7314, trivial⟩⟩ (Nat.le_of_ble_eq_true rfl) (Nat.le_of_ble_eq_true rfl)
set_option maxRecDepth 10000 in
theorem q7348 {l : Launch} {E : EE} (hl : l.stackTraces = false) {h : HP} (o7332 : ob h 252 = some (.inr (10, [.ref 253, .ref 254, .ref 255, .ref 272, .ref 273]))) (o7333 : ob h 272 = some (.inl (0, 16, .inl (upd (fun _ => 0) 8 (Int32.ofInt 1))))) (o7334 : ob h 255 = some (.inl (5, 16, .inr (.inr (.inr (.inr (fun i => if i < 16 then some (255 + 1 + i) else none))))))) (o7335 : ob h 264 = some (.inl (0, 280, .inl (fun _ => 0)))) (o7341 : ob h 273 = some (.inl (0, 16, .inl (fun _ => 0)))) : en_C l E M_X7_trim 0 0 0 [.ref 252, .int (Int32.ofInt 8)] h (pF none [272, 273] h (fun h' => ob h' 272 = some (.inl (0, 16, .inl (fun _ => 0))) ∧ ob h' 273 = some (.inl (0, 16, .inl (fun _ => 0))) ∧ True)) := by
  refine en_mk m_X7_trim rfl hl (Nat.le_of_ble_eq_true rfl) ?_
  refine x_aload_n (M := M_X7_trim) dX7_trim_0 rfl ?_
  refine x_getf (M := M_X7_trim) (ci := 10) (C := RX7) (T := TX7) (N := 5) (ty := tyX7) cl10 dX7_trim_1 o7332 3 (by decide) t_550 (v := .ref 272) rfl ?_
  refine x_iload_n (M := M_X7_trim) dX7_trim_4 rfl ?_
  refine x_iald (M := M_X7_trim) dX7_trim_5 o7333 (vp_inD (by decide +kernel)) ?_
  refine x_top (M := M_X7_trim) (y := (Int32.ofInt 1)) (by decide +kernel) ?_
  refine x_if_le (M := M_X7_trim) (tgt := 40) dX7_trim_6 (by decide) (fun q => absurd q (by decide +kernel)) (fun _ => ?_)
  refine x_aload_n (M := M_X7_trim) dX7_trim_9 rfl ?_
  refine x_getf (M := M_X7_trim) (ci := 10) (C := RX7) (T := TX7) (N := 5) (ty := tyX7) cl10 dX7_trim_10 o7332 2 (by decide) t_549 (v := .ref 255) rfl ?_
  refine x_iload_n (M := M_X7_trim) dX7_trim_13 rfl ?_
  refine x_gald (M := M_X7_trim) (b := 264) dX7_trim_14 o7334 (vp_inD (by decide +kernel)) (by decide +kernel) ?_
  refine x_aload_n (M := M_X7_trim) dX7_trim_15 rfl ?_
  refine x_getf (M := M_X7_trim) (ci := 10) (C := RX7) (T := TX7) (N := 5) (ty := tyX7) cl10 dX7_trim_16 o7332 3 (by decide) t_550 (v := .ref 272) rfl ?_
  refine x_iload_n (M := M_X7_trim) dX7_trim_19 rfl ?_
  refine x_iald (M := M_X7_trim) dX7_trim_20 o7333 (vp_inD (by decide +kernel)) ?_
  refine x_top (M := M_X7_trim) (y := (Int32.ofInt 1)) (by decide +kernel) ?_
  refine x_iconst (M := M_X7_trim) dX7_trim_21 ?_
  refine x_isub (M := M_X7_trim) dX7_trim_22 ?_
  refine x_iald (M := M_X7_trim) dX7_trim_23 o7335 (vp_inD (by decide +kernel)) ?_
  refine x_top (M := M_X7_trim) (y := (Int32.ofInt 0)) (by decide +kernel) ?_
  refine x_if_ne (M := M_X7_trim) (tgt := 40) dX7_trim_24 (by decide) (fun q => absurd q (by decide +kernel)) (fun _ => ?_)
  refine x_aload_n (M := M_X7_trim) dX7_trim_27 rfl ?_
  refine x_getf (M := M_X7_trim) (ci := 10) (C := RX7) (T := TX7) (N := 5) (ty := tyX7) cl10 dX7_trim_28 o7332 3 (by decide) t_550 (v := .ref 272) rfl ?_
  refine x_iload_n (M := M_X7_trim) dX7_trim_31 rfl ?_
  refine x_dup2 (M := M_X7_trim) dX7_trim_32 rfl rfl ?_
  refine x_iald (M := M_X7_trim) dX7_trim_33 o7333 (vp_inD (by decide +kernel)) ?_
  refine x_top (M := M_X7_trim) (y := (Int32.ofInt 1)) (by decide +kernel) ?_
  refine x_iconst (M := M_X7_trim) dX7_trim_34 ?_
  refine x_isub (M := M_X7_trim) dX7_trim_35 ?_
  refine x_norm (M := M_X7_trim) (st' := [.int (Int32.ofInt 0), .int (Int32.ofInt 8), .ref 272]) rfl (vi_cons (by decide +kernel : ((Int32.ofInt 1) - (Int32.ofInt 1)) = (Int32.ofInt 0)) rfl) rfl rfl rfl ?_
  refine y_iast (M := M_X7_trim) (k := 8) dX7_trim_36 o7333 (vp_inD (by decide +kernel)) (by decide +kernel) (fun h7336 w7337 f7338 => ?_)
  have w7339 : ob h7336 272 = some (.inl (0, 16, .inl (fun _ => 0))) := by rw [w7337, up_up (k := 8), up_z (k := 8)]
  refine x_goto (M := M_X7_trim) (tgt := 0) dX7_trim_37 (by decide) ?_
  refine x_aload_n (M := M_X7_trim) dX7_trim_0 rfl ?_
  have o7340 := (f7338 252 _ (by decide) o7332)
  refine x_getf (M := M_X7_trim) (ci := 10) (C := RX7) (T := TX7) (N := 5) (ty := tyX7) cl10 dX7_trim_1 o7340 3 (by decide) t_550 (v := .ref 272) rfl ?_
  refine x_iload_n (M := M_X7_trim) dX7_trim_4 rfl ?_
  refine x_iald (M := M_X7_trim) dX7_trim_5 w7339 (vp_inD (by decide +kernel)) ?_
  refine x_top (M := M_X7_trim) (y := (Int32.ofInt 0)) (by decide +kernel) ?_
  refine x_if_le (M := M_X7_trim) (tgt := 40) dX7_trim_6 (by decide) (fun _ => ?_) (fun q => absurd q (by decide +kernel))
  refine x_aload_n (M := M_X7_trim) dX7_trim_40 rfl ?_
  refine x_getf (M := M_X7_trim) (ci := 10) (C := RX7) (T := TX7) (N := 5) (ty := tyX7) cl10 dX7_trim_41 o7340 3 (by decide) t_550 (v := .ref 272) rfl ?_
  refine x_iload_n (M := M_X7_trim) dX7_trim_44 rfl ?_
  refine x_iald (M := M_X7_trim) dX7_trim_45 w7339 (vp_inD (by decide +kernel)) ?_
  refine x_top (M := M_X7_trim) (y := (Int32.ofInt 0)) (by decide +kernel) ?_
  refine x_if_ne (M := M_X7_trim) (tgt := 56) dX7_trim_46 (by decide) (fun q => absurd q (by decide +kernel)) (fun _ => ?_)
  refine x_aload_n (M := M_X7_trim) dX7_trim_49 rfl ?_
  refine x_getf (M := M_X7_trim) (ci := 10) (C := RX7) (T := TX7) (N := 5) (ty := tyX7) cl10 dX7_trim_50 o7340 4 (by decide) t_551 (v := .ref 273) rfl ?_
  refine x_iload_n (M := M_X7_trim) dX7_trim_53 rfl ?_
  refine x_iconst (M := M_X7_trim) dX7_trim_54 ?_
  have o7342 := (f7338 273 _ (by decide) o7341)
  refine y_iast (M := M_X7_trim) (k := 8) dX7_trim_55 o7342 (vp_inD (by decide +kernel)) (by decide +kernel) (fun h7343 w7344 f7345 => ?_)
  have w7346 : ob h7343 273 = some (.inl (0, 16, .inl (fun _ => 0))) := by rw [w7344, up_z (k := 8)]
  have o7347 := (f7345 272 _ (by decide) w7339)
  exact x_vret (M := M_X7_trim) dX7_trim_56 rfl ⟨rfl, (fr_tr f7345 (by decide) (fr_tr f7338 (by decide) fr_rf)), ⟨o7347, w7346, trivial⟩⟩ (Nat.le_of_ble_eq_true rfl) (Nat.le_of_ble_eq_true rfl)
set_option maxRecDepth 10000 in
theorem q7359 {l : Launch} {E : EE} (hl : l.stackTraces = false) {h : HP} (o7295 : ob h 252 = some (.inr (10, [.ref 253, .ref 254, .ref 255, .ref 272, .ref 273]))) (o7296 : ob h 273 = some (.inl (0, 16, .inl (fun _ => 0)))) (o7318 : ob h 272 = some (.inl (0, 16, .inl (fun _ => 0)))) (o7319 : ob h 255 = some (.inl (5, 16, .inr (.inr (.inr (.inr (fun i => if i < 16 then some (255 + 1 + i) else none))))))) (o7320 : ob h 264 = some (.inl (0, 280, .inl (fun _ => 0)))) : en_C l E M_X7_addSigned 2 0 0 [.ref 252, .int (Int32.ofInt 8), .int (Int32.ofInt 6), .int (Int32.ofInt 7), .int (Int32.ofInt (-1))] h (pF none [264, 272, 273] h (fun h' => ob h' 264 = some (.inl (0, 280, .inl (fun _ => 0))) ∧ ob h' 272 = some (.inl (0, 16, .inl (fun _ => 0))) ∧ ob h' 273 = some (.inl (0, 16, .inl (fun _ => 0))) ∧ True)) := by
  refine en_mk m_X7_addSigned rfl hl (Nat.le_of_ble_eq_true rfl) ?_
  refine x_aload_n (M := M_X7_addSigned) dX7_addSigned_0 rfl ?_
  refine x_getf (M := M_X7_addSigned) (ci := 10) (C := RX7) (T := TX7) (N := 5) (ty := tyX7) cl10 dX7_addSigned_1 o7295 4 (by decide) t_551 (v := .ref 273) rfl ?_
  refine x_iload_n (M := M_X7_addSigned) dX7_addSigned_4 rfl ?_
  refine x_iald (M := M_X7_addSigned) dX7_addSigned_5 o7296 (vp_inD (by decide +kernel)) ?_
  refine x_top (M := M_X7_addSigned) (y := (Int32.ofInt 0)) (by decide +kernel) ?_
  refine x_iload (M := M_X7_addSigned) dX7_addSigned_6 rfl ?_
  refine x_imul (M := M_X7_addSigned) dX7_addSigned_8 ?_
  refine x_top (M := M_X7_addSigned) (y := (Int32.ofInt 0)) (by decide +kernel) ?_
  refine x_istore (M := M_X7_addSigned) dX7_addSigned_9 (Nat.le_of_ble_eq_true rfl) rfl ?_
  refine x_aload_n (M := M_X7_addSigned) dX7_addSigned_11 rfl ?_
  refine x_getf (M := M_X7_addSigned) (ci := 10) (C := RX7) (T := TX7) (N := 5) (ty := tyX7) cl10 dX7_addSigned_12 o7295 4 (by decide) t_551 (v := .ref 273) rfl ?_
  refine x_iload_n (M := M_X7_addSigned) dX7_addSigned_15 rfl ?_
  refine x_iald (M := M_X7_addSigned) dX7_addSigned_16 o7296 (vp_inD (by decide +kernel)) ?_
  refine x_top (M := M_X7_addSigned) (y := (Int32.ofInt 0)) (by decide +kernel) ?_
  refine x_iload (M := M_X7_addSigned) dX7_addSigned_17 rfl ?_
  refine x_imul (M := M_X7_addSigned) dX7_addSigned_19 ?_
  refine x_if_lt (M := M_X7_addSigned) (tgt := 64) dX7_addSigned_20 (by decide) (fun q => absurd q (by decide +kernel)) (fun _ => ?_)
  refine x_aload_n (M := M_X7_addSigned) dX7_addSigned_23 rfl ?_
  refine x_getf (M := M_X7_addSigned) (ci := 10) (C := RX7) (T := TX7) (N := 5) (ty := tyX7) cl10 dX7_addSigned_24 o7295 4 (by decide) t_551 (v := .ref 273) rfl ?_
  refine x_iload_n (M := M_X7_addSigned) dX7_addSigned_27 rfl ?_
  refine x_iald (M := M_X7_addSigned) dX7_addSigned_28 o7296 (vp_inD (by decide +kernel)) ?_
  refine x_top (M := M_X7_addSigned) (y := (Int32.ofInt 0)) (by decide +kernel) ?_
  refine x_if_eq (M := M_X7_addSigned) (tgt := 41) dX7_addSigned_29 (by decide) (fun _ => ?_) (fun q => absurd q (by decide +kernel))
  refine x_iload (M := M_X7_addSigned) dX7_addSigned_41 rfl ?_
  refine x_istore (M := M_X7_addSigned) dX7_addSigned_43 (Nat.le_of_ble_eq_true rfl) rfl ?_
  refine x_aload_n (M := M_X7_addSigned) dX7_addSigned_45 rfl ?_
  refine x_iload_n (M := M_X7_addSigned) dX7_addSigned_46 rfl ?_
  refine x_iload_n (M := M_X7_addSigned) dX7_addSigned_47 rfl ?_
  refine x_iload_n (M := M_X7_addSigned) dX7_addSigned_48 rfl ?_
  refine x_iconst (M := M_X7_addSigned) dX7_addSigned_49 ?_
  refine y_callVR (M := M_X7_addSigned) (M' := M_X7_addLimbs) rfl rfl dX7_addSigned_50 m_X7_addLimbs t_2347 t_2349 s_152 (q7317 hl o7295 o7318 o7319 o7320) rfl rfl o7295 rfl (Nat.le_of_ble_eq_true rfl) (Nat.le_of_ble_eq_true rfl) (Nat.le_of_ble_eq_true rfl) (Nat.le_of_ble_eq_true rfl) (fun h7321 f7322 w7323 => ?_)
  obtain ⟨o7324, o7325, -⟩ := w7323
  refine x_aload_n (M := M_X7_addSigned) dX7_addSigned_53 rfl ?_
  have o7326 := (f7322 252 _ (by decide) o7295)
  refine x_getf (M := M_X7_addSigned) (ci := 10) (C := RX7) (T := TX7) (N := 5) (ty := tyX7) cl10 dX7_addSigned_54 o7326 4 (by decide) t_551 (v := .ref 273) rfl ?_
  refine x_iload_n (M := M_X7_addSigned) dX7_addSigned_57 rfl ?_
  refine x_iload (M := M_X7_addSigned) dX7_addSigned_58 rfl ?_
  have o7327 := (f7322 273 _ (by decide) o7296)
  refine y_iast (M := M_X7_addSigned) (k := 8) dX7_addSigned_60 o7327 (vp_inD (by decide +kernel)) (by decide +kernel) (fun h7328 w7329 f7330 => ?_)
  have w7331 : ob h7328 273 = some (.inl (0, 16, .inl (fun _ => 0))) := by rw [w7329, up_z (k := 8)]
  refine x_goto (M := M_X7_addSigned) (tgt := 112) dX7_addSigned_61 (by decide) ?_
  refine x_aload_n (M := M_X7_addSigned) dX7_addSigned_112 rfl ?_
  refine x_iload_n (M := M_X7_addSigned) dX7_addSigned_113 rfl ?_
  have o7349 := (f7330 252 _ (by decide) o7326)
  have o7350 := (f7330 272 _ (by decide) o7325)
  have o7351 := (f7330 255 _ (by decide) (f7322 255 _ (by decide) o7319))
  have o7352 := (f7330 264 _ (by decide) o7324)
  refine y_callVR (M := M_X7_addSigned) (M' := M_X7_trim) rfl rfl dX7_addSigned_114 m_X7_trim t_2339 t_2341 s_150 (q7348 hl o7349 o7350 o7351 o7352 w7331) rfl rfl o7349 rfl (Nat.le_of_ble_eq_true rfl) (Nat.le_of_ble_eq_true rfl) (Nat.le_of_ble_eq_true rfl) (Nat.le_of_ble_eq_true rfl) (fun h7353 f7354 w7355 => ?_)
  obtain ⟨o7356, o7357, -⟩ := w7355
  have o7358 := (f7354 264 _ (by decide) o7352)
  exact x_vret (M := M_X7_addSigned) dX7_addSigned_117 rfl ⟨rfl, (fr_tr f7354 (by decide) (fr_tr f7330 (by decide) (fr_tr f7322 (by decide) fr_rf))), ⟨o7358, o7356, o7357, trivial⟩⟩ (Nat.le_of_ble_eq_true rfl) (Nat.le_of_ble_eq_true rfl)
set_option maxRecDepth 10000 in
theorem q7377 {l : Launch} {E : EE} (hl : l.stackTraces = false) {h : HP} {a0 : Int32} {a1 : Int32} {a2 : Int32} (c0 : ¬ (a0.toInt < 0)) (c1 : a0.toInt < 32) (c2 : ¬ (a1.toInt < 0)) (c3 : a1.toInt < 32) (c4 : ¬ (a2.toInt < 0)) (c5 : a2.toInt < 32) (o6589 : ob h 252 = some (.inr (10, [.ref 253, .ref 254, .ref 255, .ref 272, .ref 273]))) (o6590 : ob h 253 = some (.inl (1, 32, .inr (.inl (fun _ => 0))))) (o6877 : ob h 255 = some (.inl (5, 16, .inr (.inr (.inr (.inr (fun i => if i < 16 then some (255 + 1 + i) else none))))))) (o6878 : ob h 256 = some (.inl (0, 280, .inl (fun _ => 0)))) (o6879 : ob h 272 = some (.inl (0, 16, .inl (fun _ => 0)))) (o6880 : ob h 273 = some (.inl (0, 16, .inl (fun _ => 0)))) (o6881 : ob h 257 = some (.inl (0, 280, .inl (fun _ => 0)))) (o6882 : ob h 258 = some (.inl (0, 280, .inl (fun _ => 0)))) (o6892 : ob h 254 = some (.inl (1, 32, .inr (.inl (fun _ => 0))))) (o6988 : ob h 259 = some (.inl (0, 280, .inl (fun _ => 0)))) (o7094 : ob h 260 = some (.inl (0, 280, .inl (fun _ => 0)))) (o7200 : ob h 261 = some (.inl (0, 280, .inl (fun _ => 0)))) (o7246 : ob h 262 = some (.inl (0, 280, .inl (fun _ => 0)))) (o7288 : ob h 263 = some (.inl (0, 280, .inl (fun _ => 0)))) (o7362 : ob h 264 = some (.inl (0, 280, .inl (fun _ => 0)))) : en_C l E M_X7_sideSign 4 0 0 [.ref 252, .int a0, .int a1, .int a2] h (pF (some (.int (Int32.ofInt 0))) [256, 272, 273, 257, 258, 259, 260, 261, 264] h (fun h' => ob h' 256 = some (.inl (0, 280, .inl (fun _ => 0))) ∧ ob h' 272 = some (.inl (0, 16, .inl (fun _ => 0))) ∧ ob h' 273 = some (.inl (0, 16, .inl (fun _ => 0))) ∧ ob h' 257 = some (.inl (0, 280, .inl (fun _ => 0))) ∧ ob h' 258 = some (.inl (0, 280, .inl (fun _ => 0))) ∧ ob h' 259 = some (.inl (0, 280, .inl (fun _ => 0))) ∧ ob h' 260 = some (.inl (0, 280, .inl (fun _ => 0))) ∧ ob h' 261 = some (.inl (0, 280, .inl (fun _ => 0))) ∧ ob h' 264 = some (.inl (0, 280, .inl (fun _ => 0))) ∧ True)) := by
  refine en_mk m_X7_sideSign rfl hl (Nat.le_of_ble_eq_true rfl) ?_
  refine x_aload_n (M := M_X7_sideSign) dX7_sideSign_0 rfl ?_
  refine x_iconst (M := M_X7_sideSign) dX7_sideSign_1 ?_
  refine x_aload_n (M := M_X7_sideSign) dX7_sideSign_2 rfl ?_
  refine x_getf (M := M_X7_sideSign) (ci := 10) (C := RX7) (T := TX7) (N := 5) (ty := tyX7) cl10 dX7_sideSign_3 o6589 0 (by decide) t_545 (v := .ref 253) rfl ?_
  refine x_iload_n (M := M_X7_sideSign) dX7_sideSign_6 rfl ?_
  refine x_lald (M := M_X7_sideSign) dX7_sideSign_7 o6590 (vp_in_s (by omega) (by omega)) ?_
  refine x_topl (M := M_X7_sideSign) (y := (Int64.ofInt 0)) rfl ?_
  refine x_aload_n (M := M_X7_sideSign) dX7_sideSign_8 rfl ?_
  refine x_getf (M := M_X7_sideSign) (ci := 10) (C := RX7) (T := TX7) (N := 5) (ty := tyX7) cl10 dX7_sideSign_9 o6589 0 (by decide) t_545 (v := .ref 253) rfl ?_
  refine x_iload_n (M := M_X7_sideSign) dX7_sideSign_12 rfl ?_
  refine x_lald (M := M_X7_sideSign) dX7_sideSign_13 o6590 (vp_in_s (by omega) (by omega)) ?_
  refine x_topl (M := M_X7_sideSign) (y := (Int64.ofInt 0)) rfl ?_
  refine y_callVR (M := M_X7_sideSign) (M' := M_X7_difference) rfl rfl dX7_sideSign_14 m_X7_difference t_2327 t_2329 s_148 (q6876 hl o6589 o6877 o6878 o6879 o6880 o6881 o6882) rfl rfl o6589 rfl (Nat.le_of_ble_eq_true rfl) (Nat.le_of_ble_eq_true rfl) (Nat.le_of_ble_eq_true rfl) (Nat.le_of_ble_eq_true rfl) (fun h6883 f6884 w6885 => ?_)
  obtain ⟨o6886, o6887, o6888, o6889, o6890, -⟩ := w6885
  refine x_aload_n (M := M_X7_sideSign) dX7_sideSign_17 rfl ?_
  refine x_iconst (M := M_X7_sideSign) dX7_sideSign_18 ?_
  refine x_aload_n (M := M_X7_sideSign) dX7_sideSign_19 rfl ?_
  have o6891 := (f6884 252 _ (by decide) o6589)
  refine x_getf (M := M_X7_sideSign) (ci := 10) (C := RX7) (T := TX7) (N := 5) (ty := tyX7) cl10 dX7_sideSign_20 o6891 1 (by decide) t_547 (v := .ref 254) rfl ?_
  refine x_iload_n (M := M_X7_sideSign) dX7_sideSign_23 rfl ?_
  have o6893 := (f6884 254 _ (by decide) o6892)
  refine x_lald (M := M_X7_sideSign) dX7_sideSign_24 o6893 (vp_in_s (by omega) (by omega)) ?_
  refine x_topl (M := M_X7_sideSign) (y := (Int64.ofInt 0)) rfl ?_
  refine x_aload_n (M := M_X7_sideSign) dX7_sideSign_25 rfl ?_
  refine x_getf (M := M_X7_sideSign) (ci := 10) (C := RX7) (T := TX7) (N := 5) (ty := tyX7) cl10 dX7_sideSign_26 o6891 1 (by decide) t_547 (v := .ref 254) rfl ?_
  refine x_iload_n (M := M_X7_sideSign) dX7_sideSign_29 rfl ?_
  refine x_lald (M := M_X7_sideSign) dX7_sideSign_30 o6893 (vp_in_s (by omega) (by omega)) ?_
  refine x_topl (M := M_X7_sideSign) (y := (Int64.ofInt 0)) rfl ?_
  have o6987 := (f6884 255 _ (by decide) o6877)
  have o6989 := (f6884 259 _ (by decide) o6988)
  refine y_callVR (M := M_X7_sideSign) (M' := M_X7_difference) rfl rfl dX7_sideSign_31 m_X7_difference t_2327 t_2329 s_148 (q6986 hl o6891 o6987 o6886 o6887 o6888 o6889 o6989) rfl rfl o6891 rfl (Nat.le_of_ble_eq_true rfl) (Nat.le_of_ble_eq_true rfl) (Nat.le_of_ble_eq_true rfl) (Nat.le_of_ble_eq_true rfl) (fun h6990 f6991 w6992 => ?_)
  obtain ⟨o6993, o6994, o6995, o6996, o6997, -⟩ := w6992
  refine x_aload_n (M := M_X7_sideSign) dX7_sideSign_34 rfl ?_
  refine x_iconst (M := M_X7_sideSign) dX7_sideSign_35 ?_
  refine x_aload_n (M := M_X7_sideSign) dX7_sideSign_36 rfl ?_
  have o6998 := (f6991 252 _ (by decide) o6891)
  refine x_getf (M := M_X7_sideSign) (ci := 10) (C := RX7) (T := TX7) (N := 5) (ty := tyX7) cl10 dX7_sideSign_37 o6998 1 (by decide) t_547 (v := .ref 254) rfl ?_
  refine x_iload_n (M := M_X7_sideSign) dX7_sideSign_40 rfl ?_
  have o6999 := (f6991 254 _ (by decide) o6893)
  refine x_lald (M := M_X7_sideSign) dX7_sideSign_41 o6999 (vp_in_s (by omega) (by omega)) ?_
  refine x_topl (M := M_X7_sideSign) (y := (Int64.ofInt 0)) rfl ?_
  refine x_aload_n (M := M_X7_sideSign) dX7_sideSign_42 rfl ?_
  refine x_getf (M := M_X7_sideSign) (ci := 10) (C := RX7) (T := TX7) (N := 5) (ty := tyX7) cl10 dX7_sideSign_43 o6998 1 (by decide) t_547 (v := .ref 254) rfl ?_
  refine x_iload_n (M := M_X7_sideSign) dX7_sideSign_46 rfl ?_
  refine x_lald (M := M_X7_sideSign) dX7_sideSign_47 o6999 (vp_in_s (by omega) (by omega)) ?_
  refine x_topl (M := M_X7_sideSign) (y := (Int64.ofInt 0)) rfl ?_
  have o7093 := (f6991 255 _ (by decide) o6987)
  have o7095 := (f6991 260 _ (by decide) (f6884 260 _ (by decide) o7094))
  refine y_callVR (M := M_X7_sideSign) (M' := M_X7_difference) rfl rfl dX7_sideSign_48 m_X7_difference t_2327 t_2329 s_148 (q7092 hl o6998 o7093 o6993 o6994 o6995 o6996 o7095) rfl rfl o6998 rfl (Nat.le_of_ble_eq_true rfl) (Nat.le_of_ble_eq_true rfl) (Nat.le_of_ble_eq_true rfl) (Nat.le_of_ble_eq_true rfl) (fun h7096 f7097 w7098 => ?_)
  obtain ⟨o7099, o7100, o7101, o7102, o7103, -⟩ := w7098
  refine x_aload_n (M := M_X7_sideSign) dX7_sideSign_51 rfl ?_
  refine x_iconst (M := M_X7_sideSign) dX7_sideSign_52 ?_
  refine x_aload_n (M := M_X7_sideSign) dX7_sideSign_53 rfl ?_
  have o7104 := (f7097 252 _ (by decide) o6998)
  refine x_getf (M := M_X7_sideSign) (ci := 10) (C := RX7) (T := TX7) (N := 5) (ty := tyX7) cl10 dX7_sideSign_54 o7104 0 (by decide) t_545 (v := .ref 253) rfl ?_
  refine x_iload_n (M := M_X7_sideSign) dX7_sideSign_57 rfl ?_
  have o7105 := (f7097 253 _ (by decide) (f6991 253 _ (by decide) (f6884 253 _ (by decide) o6590)))
  refine x_lald (M := M_X7_sideSign) dX7_sideSign_58 o7105 (vp_in_s (by omega) (by omega)) ?_
  refine x_topl (M := M_X7_sideSign) (y := (Int64.ofInt 0)) rfl ?_
  refine x_aload_n (M := M_X7_sideSign) dX7_sideSign_59 rfl ?_
  refine x_getf (M := M_X7_sideSign) (ci := 10) (C := RX7) (T := TX7) (N := 5) (ty := tyX7) cl10 dX7_sideSign_60 o7104 0 (by decide) t_545 (v := .ref 253) rfl ?_
  refine x_iload_n (M := M_X7_sideSign) dX7_sideSign_63 rfl ?_
  refine x_lald (M := M_X7_sideSign) dX7_sideSign_64 o7105 (vp_in_s (by omega) (by omega)) ?_
  refine x_topl (M := M_X7_sideSign) (y := (Int64.ofInt 0)) rfl ?_
  have o7199 := (f7097 255 _ (by decide) o7093)
  have o7201 := (f7097 261 _ (by decide) (f6991 261 _ (by decide) (f6884 261 _ (by decide) o7200)))
  refine y_callVR (M := M_X7_sideSign) (M' := M_X7_difference) rfl rfl dX7_sideSign_65 m_X7_difference t_2327 t_2329 s_148 (q7198 hl o7104 o7199 o7099 o7100 o7101 o7102 o7201) rfl rfl o7104 rfl (Nat.le_of_ble_eq_true rfl) (Nat.le_of_ble_eq_true rfl) (Nat.le_of_ble_eq_true rfl) (Nat.le_of_ble_eq_true rfl) (fun h7202 f7203 w7204 => ?_)
  obtain ⟨o7205, o7206, o7207, o7208, o7209, -⟩ := w7204
  refine x_aload_n (M := M_X7_sideSign) dX7_sideSign_68 rfl ?_
  refine x_bipush (M := M_X7_sideSign) dX7_sideSign_69 ?_
  refine x_iconst (M := M_X7_sideSign) dX7_sideSign_71 ?_
  refine x_iconst (M := M_X7_sideSign) dX7_sideSign_72 ?_
  refine x_norm (M := M_X7_sideSign) (st' := [.int (Int32.ofInt 3), .int (Int32.ofInt 2), .int (Int32.ofInt 6), .ref 252]) rfl (v_cons (v_cons (vi_cons (by decide +kernel : ((Int8.ofInt 6).toInt32) = (Int32.ofInt 6)) rfl))) rfl rfl rfl ?_
  have o7244 := (f7203 252 _ (by decide) o7104)
  have o7245 := (f7203 255 _ (by decide) o7199)
  have o7247 := (f7203 262 _ (by decide) (f7097 262 _ (by decide) (f6991 262 _ (by decide) (f6884 262 _ (by decide) o7246))))
  refine y_callVR (M := M_X7_sideSign) (M' := M_X7_multiply) rfl rfl dX7_sideSign_73 m_X7_multiply t_2360 t_2362 s_155 (q7243 hl o7244 o7206 o7245 o7247 o7207) rfl rfl o7244 rfl (Nat.le_of_ble_eq_true rfl) (Nat.le_of_ble_eq_true rfl) (Nat.le_of_ble_eq_true rfl) (Nat.le_of_ble_eq_true rfl) (fun h7248 f7249 w7250 => ?_)
  obtain ⟨o7251, o7252, -⟩ := w7250
  refine x_aload_n (M := M_X7_sideSign) dX7_sideSign_76 rfl ?_
  refine x_bipush (M := M_X7_sideSign) dX7_sideSign_77 ?_
  refine x_iconst (M := M_X7_sideSign) dX7_sideSign_79 ?_
  refine x_iconst (M := M_X7_sideSign) dX7_sideSign_80 ?_
  refine x_norm (M := M_X7_sideSign) (st' := [.int (Int32.ofInt 5), .int (Int32.ofInt 4), .int (Int32.ofInt 7), .ref 252]) rfl (v_cons (v_cons (vi_cons (by decide +kernel : ((Int8.ofInt 7).toInt32) = (Int32.ofInt 7)) rfl))) rfl rfl rfl ?_
  have o7286 := (f7249 252 _ (by decide) o7244)
  have o7287 := (f7249 255 _ (by decide) o7245)
  have o7289 := (f7249 263 _ (by decide) (f7203 263 _ (by decide) (f7097 263 _ (by decide) (f6991 263 _ (by decide) (f6884 263 _ (by decide) o7288)))))
  refine y_callVR (M := M_X7_sideSign) (M' := M_X7_multiply) rfl rfl dX7_sideSign_81 m_X7_multiply t_2360 t_2362 s_155 (q7285 hl o7286 o7251 o7287 o7289 o7252) rfl rfl o7286 rfl (Nat.le_of_ble_eq_true rfl) (Nat.le_of_ble_eq_true rfl) (Nat.le_of_ble_eq_true rfl) (Nat.le_of_ble_eq_true rfl) (fun h7290 f7291 w7292 => ?_)
  obtain ⟨o7293, o7294, -⟩ := w7292
  refine x_aload_n (M := M_X7_sideSign) dX7_sideSign_84 rfl ?_
  refine x_bipush (M := M_X7_sideSign) dX7_sideSign_85 ?_
  refine x_bipush (M := M_X7_sideSign) dX7_sideSign_87 ?_
  refine x_bipush (M := M_X7_sideSign) dX7_sideSign_89 ?_
  refine x_iconst (M := M_X7_sideSign) dX7_sideSign_91 ?_
  refine x_norm (M := M_X7_sideSign) (st' := [.int (Int32.ofInt (-1)), .int (Int32.ofInt 7), .int (Int32.ofInt 6), .int (Int32.ofInt 8), .ref 252]) rfl (v_cons (vi_cons (by decide +kernel : ((Int8.ofInt 7).toInt32) = (Int32.ofInt 7)) (vi_cons (by decide +kernel : ((Int8.ofInt 6).toInt32) = (Int32.ofInt 6)) (vi_cons (by decide +kernel : ((Int8.ofInt 8).toInt32) = (Int32.ofInt 8)) rfl)))) rfl rfl rfl ?_
  have o7360 := (f7291 252 _ (by decide) o7286)
  have o7361 := (f7291 255 _ (by decide) o7287)
  have o7363 := (f7291 264 _ (by decide) (f7249 264 _ (by decide) (f7203 264 _ (by decide) (f7097 264 _ (by decide) (f6991 264 _ (by decide) (f6884 264 _ (by decide) o7362))))))
  refine y_callVR (M := M_X7_sideSign) (M' := M_X7_addSigned) rfl rfl dX7_sideSign_92 m_X7_addSigned t_2343 t_2345 s_151 (q7359 hl o7360 o7294 o7293 o7361 o7363) rfl rfl o7360 rfl (Nat.le_of_ble_eq_true rfl) (Nat.le_of_ble_eq_true rfl) (Nat.le_of_ble_eq_true rfl) (Nat.le_of_ble_eq_true rfl) (fun h7364 f7365 w7366 => ?_)
  obtain ⟨o7367, o7368, o7369, -⟩ := w7366
  refine x_aload_n (M := M_X7_sideSign) dX7_sideSign_95 rfl ?_
  have o7370 := (f7365 252 _ (by decide) o7360)
  refine x_getf (M := M_X7_sideSign) (ci := 10) (C := RX7) (T := TX7) (N := 5) (ty := tyX7) cl10 dX7_sideSign_96 o7370 4 (by decide) t_551 (v := .ref 273) rfl ?_
  refine x_bipush (M := M_X7_sideSign) dX7_sideSign_99 ?_
  refine x_iald (M := M_X7_sideSign) dX7_sideSign_101 o7369 (vp_inD (by decide +kernel)) ?_
  refine x_top (M := M_X7_sideSign) (y := (Int32.ofInt 0)) (by decide +kernel) ?_
  have o7371 := (f7365 256 _ (by decide) (f7291 256 _ (by decide) (f7249 256 _ (by decide) o7205)))
  have o7372 := (f7365 257 _ (by decide) (f7291 257 _ (by decide) (f7249 257 _ (by decide) o7208)))
  have o7373 := (f7365 258 _ (by decide) (f7291 258 _ (by decide) (f7249 258 _ (by decide) (f7203 258 _ (by decide) (f7097 258 _ (by decide) (f6991 258 _ (by decide) o6890))))))
  have o7374 := (f7365 259 _ (by decide) (f7291 259 _ (by decide) (f7249 259 _ (by decide) (f7203 259 _ (by decide) (f7097 259 _ (by decide) o6997)))))
  have o7375 := (f7365 260 _ (by decide) (f7291 260 _ (by decide) (f7249 260 _ (by decide) (f7203 260 _ (by decide) o7103))))
  have o7376 := (f7365 261 _ (by decide) (f7291 261 _ (by decide) (f7249 261 _ (by decide) o7209)))
  exact x_iret (M := M_X7_sideSign) dX7_sideSign_102 rfl ⟨rfl, (fr_tr f7365 (by decide) (fr_tr f7291 (by decide) (fr_tr f7249 (by decide) (fr_tr f7203 (by decide) (fr_tr f7097 (by decide) (fr_tr f6991 (by decide) (fr_tr f6884 (by decide) fr_rf))))))), ⟨o7371, o7368, o7369, o7372, o7373, o7374, o7375, o7376, o7367, trivial⟩⟩ (Nat.le_of_ble_eq_true rfl) (Nat.le_of_ble_eq_true rfl)
set_option maxRecDepth 10000 in
theorem q7405 {l : Launch} {E : EE} (hl : l.stackTraces = false) {h : HP} {a0 : Int32} {a1 : Int32} {a2 : Int32} (c0 : ¬ (a0.toInt < 0)) (c1 : a0.toInt < 32) (c2 : ¬ (a1.toInt < 0)) (c3 : a1.toInt < 32) (c4 : ¬ (a2.toInt < 0)) (c5 : a2.toInt < 32) (o6588 : ob h 32 = some (.inr (14, [.ref 33, .ref 162, .ref 166, .int (0 : Int32), .int (0 : Int32), .int (0 : Int32), .ref 167, .ref 170, .ref 173, .ref 177, .ref 193, .ref 208, .ref 222, .ref 238, .ref 252, .ref 274, .ref 275, .ref 276, .int (0 : Int32)]))) (o7378 : ob h 252 = some (.inr (10, [.ref 253, .ref 254, .ref 255, .ref 272, .ref 273]))) (o7379 : ob h 253 = some (.inl (1, 32, .inr (.inl (fun _ => 0))))) (o7380 : ob h 255 = some (.inl (5, 16, .inr (.inr (.inr (.inr (fun i => if i < 16 then some (255 + 1 + i) else none))))))) (o7381 : ob h 256 = some (.inl (0, 280, .inl (fun _ => 0)))) (o7382 : ob h 272 = some (.inl (0, 16, .inl (fun _ => 0)))) (o7383 : ob h 273 = some (.inl (0, 16, .inl (fun _ => 0)))) (o7384 : ob h 257 = some (.inl (0, 280, .inl (fun _ => 0)))) (o7385 : ob h 258 = some (.inl (0, 280, .inl (fun _ => 0)))) (o7386 : ob h 254 = some (.inl (1, 32, .inr (.inl (fun _ => 0))))) (o7387 : ob h 259 = some (.inl (0, 280, .inl (fun _ => 0)))) (o7388 : ob h 260 = some (.inl (0, 280, .inl (fun _ => 0)))) (o7389 : ob h 261 = some (.inl (0, 280, .inl (fun _ => 0)))) (o7390 : ob h 262 = some (.inl (0, 280, .inl (fun _ => 0)))) (o7391 : ob h 263 = some (.inl (0, 280, .inl (fun _ => 0)))) (o7392 : ob h 264 = some (.inl (0, 280, .inl (fun _ => 0)))) : en_C l E M_X11_side 5 0 0 [.ref 32, .int a0, .int a1, .int a2] h (pF (some (.int (Int32.ofInt 0))) [256, 272, 273, 257, 258, 259, 260, 261, 264] h (fun h' => ob h' 256 = some (.inl (0, 280, .inl (fun _ => 0))) ∧ ob h' 272 = some (.inl (0, 16, .inl (fun _ => 0))) ∧ ob h' 273 = some (.inl (0, 16, .inl (fun _ => 0))) ∧ ob h' 257 = some (.inl (0, 280, .inl (fun _ => 0))) ∧ ob h' 258 = some (.inl (0, 280, .inl (fun _ => 0))) ∧ ob h' 259 = some (.inl (0, 280, .inl (fun _ => 0))) ∧ ob h' 260 = some (.inl (0, 280, .inl (fun _ => 0))) ∧ ob h' 261 = some (.inl (0, 280, .inl (fun _ => 0))) ∧ ob h' 264 = some (.inl (0, 280, .inl (fun _ => 0))) ∧ True)) := by
  refine en_mk m_X11_side rfl hl (Nat.le_of_ble_eq_true rfl) ?_
  refine x_iload_n (M := M_X11_side) dX11_side_0 rfl ?_
  refine x_callSR (M := M_X11_side) (M' := M_X11_isNoSignPoint) rfl rfl dX11_side_1 m_X11_isNoSignPoint t_2309 t_2310 (q4334 hl c0 c1) rfl rfl (Nat.le_of_ble_eq_true rfl) (Nat.le_of_ble_eq_true rfl) (Nat.le_of_ble_eq_true rfl) (Nat.le_of_ble_eq_true rfl) ?_
  refine x_if_ne (M := M_X11_side) (tgt := 21) dX11_side_4 (by decide) (fun q => absurd q (by decide +kernel)) (fun _ => ?_)
  refine x_iload_n (M := M_X11_side) dX11_side_7 rfl ?_
  refine x_callSR (M := M_X11_side) (M' := M_X11_isNoSignPoint) rfl rfl dX11_side_8 m_X11_isNoSignPoint t_2309 t_2310 (q6557 hl c2 c3) rfl rfl (Nat.le_of_ble_eq_true rfl) (Nat.le_of_ble_eq_true rfl) (Nat.le_of_ble_eq_true rfl) (Nat.le_of_ble_eq_true rfl) ?_
  refine x_if_ne (M := M_X11_side) (tgt := 21) dX11_side_11 (by decide) (fun q => absurd q (by decide +kernel)) (fun _ => ?_)
  refine x_iload_n (M := M_X11_side) dX11_side_14 rfl ?_
  refine x_callSR (M := M_X11_side) (M' := M_X11_isNoSignPoint) rfl rfl dX11_side_15 m_X11_isNoSignPoint t_2309 t_2310 (q6587 hl c4 c5) rfl rfl (Nat.le_of_ble_eq_true rfl) (Nat.le_of_ble_eq_true rfl) (Nat.le_of_ble_eq_true rfl) (Nat.le_of_ble_eq_true rfl) ?_
  refine x_if_eq (M := M_X11_side) (tgt := 29) dX11_side_18 (by decide) (fun _ => ?_) (fun q => absurd q (by decide +kernel))
  refine x_aload_n (M := M_X11_side) dX11_side_29 rfl ?_
  refine x_getf (M := M_X11_side) (ci := 14) (C := RX11) (T := TX11) (N := 19) (ty := tyX11) cl14 dX11_side_30 o6588 14 (by decide) t_577 (v := .ref 252) rfl ?_
  refine x_iload_n (M := M_X11_side) dX11_side_33 rfl ?_
  refine x_iload_n (M := M_X11_side) dX11_side_34 rfl ?_
  refine x_iload_n (M := M_X11_side) dX11_side_35 rfl ?_
  refine y_callVR (M := M_X11_side) (M' := M_X7_sideSign) rfl rfl dX11_side_36 m_X7_sideSign t_2323 t_2324 t_2325 (q7377 hl c0 c1 c2 c3 c4 c5 o7378 o7379 o7380 o7381 o7382 o7383 o7384 o7385 o7386 o7387 o7388 o7389 o7390 o7391 o7392) rfl rfl o7378 rfl (Nat.le_of_ble_eq_true rfl) (Nat.le_of_ble_eq_true rfl) (Nat.le_of_ble_eq_true rfl) (Nat.le_of_ble_eq_true rfl) (fun h7393 f7394 w7395 => ?_)
  obtain ⟨o7396, o7397, o7398, o7399, o7400, o7401, o7402, o7403, o7404, -⟩ := w7395
  exact x_iret (M := M_X11_side) dX11_side_39 rfl ⟨rfl, (fr_tr f7394 (by decide) fr_rf), ⟨o7396, o7397, o7398, o7399, o7400, o7401, o7402, o7403, o7404, trivial⟩⟩ (Nat.le_of_ble_eq_true rfl) (Nat.le_of_ble_eq_true rfl)
set_option maxRecDepth 10000 in
theorem q7440 {l : Launch} {E : EE} (hl : l.stackTraces = false) {h : HP} {a0 : Int32} {a1 : Int32} {a2 : Int32} (c0 : ¬ (a0.toInt < 0)) (c1 : a0.toInt < 32) (c2 : ¬ (a1.toInt < 0)) (c3 : a1.toInt < 32) (c4 : ¬ (a2.toInt < 0)) (c5 : a2.toInt < 32) (o7406 : ob h 32 = some (.inr (14, [.ref 33, .ref 162, .ref 166, .int (0 : Int32), .int (0 : Int32), .int (0 : Int32), .ref 167, .ref 170, .ref 173, .ref 177, .ref 193, .ref 208, .ref 222, .ref 238, .ref 252, .ref 274, .ref 275, .ref 276, .int (0 : Int32)]))) (o7407 : ob h 252 = some (.inr (10, [.ref 253, .ref 254, .ref 255, .ref 272, .ref 273]))) (o7408 : ob h 253 = some (.inl (1, 32, .inr (.inl (fun _ => 0))))) (o7409 : ob h 255 = some (.inl (5, 16, .inr (.inr (.inr (.inr (fun i => if i < 16 then some (255 + 1 + i) else none))))))) (o7410 : ob h 256 = some (.inl (0, 280, .inl (fun _ => 0)))) (o7411 : ob h 272 = some (.inl (0, 16, .inl (fun _ => 0)))) (o7412 : ob h 273 = some (.inl (0, 16, .inl (fun _ => 0)))) (o7413 : ob h 257 = some (.inl (0, 280, .inl (fun _ => 0)))) (o7414 : ob h 258 = some (.inl (0, 280, .inl (fun _ => 0)))) (o7415 : ob h 254 = some (.inl (1, 32, .inr (.inl (fun _ => 0))))) (o7416 : ob h 259 = some (.inl (0, 280, .inl (fun _ => 0)))) (o7417 : ob h 260 = some (.inl (0, 280, .inl (fun _ => 0)))) (o7418 : ob h 261 = some (.inl (0, 280, .inl (fun _ => 0)))) (o7419 : ob h 262 = some (.inl (0, 280, .inl (fun _ => 0)))) (o7420 : ob h 263 = some (.inl (0, 280, .inl (fun _ => 0)))) (o7421 : ob h 264 = some (.inl (0, 280, .inl (fun _ => 0)))) (o7434 : ob h 359 = some (.inl (1, 1, .inr (.inl (fun _ => 0))))) : en_C l E M_L_side 6 0 0 [.ref 32, .int a0, .int a1, .int a2, .ref 359] h (pF (some (.int (Int32.ofInt 0))) [256, 272, 273, 257, 258, 259, 260, 261, 264, 359] h (fun h' => ob h' 359 = some (.inl (1, 1, .inr (.inl (fun _ => 0)))) ∧ True)) := by
  refine en_mkW m_L_side rfl hl (Nat.le_of_ble_eq_true rfl) ?_
  refine x_aload (M := M_L_side) dL_side_0 rfl ?_
  refine x_iconst (M := M_L_side) dL_side_2 ?_
  refine x_aload_n (M := M_L_side) dL_side_3 rfl ?_
  refine x_iload_n (M := M_L_side) dL_side_4 rfl ?_
  refine x_iload_n (M := M_L_side) dL_side_5 rfl ?_
  refine x_iload_n (M := M_L_side) dL_side_6 rfl ?_
  refine y_callVHR (M := M_L_side) (M' := M_X11_side) rfl dL_side_7 m_X11_side t_2319 t_2320 t_2321 o7406 rfl (q7405 hl c0 c1 c2 c3 c4 c5 o7406 o7407 o7408 o7409 o7410 o7411 o7412 o7413 o7414 o7415 o7416 o7417 o7418 o7419 o7420 o7421) rfl rfl (Nat.le_of_ble_eq_true rfl) (Nat.le_of_ble_eq_true rfl) (Nat.le_of_ble_eq_true rfl) (Nat.le_of_ble_eq_true rfl) (fun h7422 f7423 w7424 => ?_)
  obtain ⟨o7425, o7426, o7427, o7428, o7429, o7430, o7431, o7432, o7433, -⟩ := w7424
  refine x_i2l (M := M_L_side) dL_side_10 ?_
  refine x_norm (M := M_L_side) (st' := [.long (Int64.ofInt 0), .int (Int32.ofInt 0), .ref 359]) rfl (vj_cons (by decide +kernel : ((Int32.ofInt 0).toInt64) = (Int64.ofInt 0)) rfl) rfl rfl rfl ?_
  have o7435 := (f7423 359 _ (by decide) o7434)
  refine y_last (M := M_L_side) (k := 0) dL_side_11 o7435 (vp_inD (by decide +kernel)) (by decide +kernel) (fun h7436 w7437 f7438 => ?_)
  have w7439 : ob h7436 359 = some (.inl (1, 1, .inr (.inl (fun _ => 0)))) := by rw [w7437, uq_z (k := 0)]
  refine x_goto (M := M_L_side) (tgt := 19) dL_side_12 (by decide) ?_
  refine x_iconst (M := M_L_side) dL_side_19 ?_
  exact x_iret (M := M_L_side) dL_side_20 rfl ⟨rfl, (fr_tr f7438 (by decide) (fr_tr f7423 (by decide) fr_rf)), ⟨w7439, trivial⟩⟩ (Nat.le_of_ble_eq_true rfl) (Nat.le_of_ble_eq_true rfl)
set_option maxRecDepth 10000 in
theorem q7466 {l : Launch} {E : EE} (hl : l.stackTraces = false) {h : HP} {a2 : Int32} (c0 : ¬ (a2.toInt < 0)) (c1 : a2.toInt < 32) : en_C l E M_X12_isPoint 0 0 0 [.int a2] h (pR (some (.int (Int32.ofInt 1))) h) := by
  refine en_mk m_X12_isPoint rfl hl (Nat.le_of_ble_eq_true rfl) ?_
  refine x_iload_n (M := M_X12_isPoint) dX12_isPoint_0 rfl ?_
  refine x_if_lt (M := M_X12_isPoint) (tgt := 14) dX12_isPoint_1 (by decide) (fun q => absurd ((bi_lt rfl (by decide +kernel)).mp q) (by omega : ¬ (a2.toInt < 0))) (fun _ => ?_)
  refine x_iload_n (M := M_X12_isPoint) dX12_isPoint_4 rfl ?_
  refine x_bipush (M := M_X12_isPoint) dX12_isPoint_5 ?_
  refine x_icmp_ge (M := M_X12_isPoint) (tgt := 14) dX12_isPoint_7 (by decide) (fun q => absurd ((bi_le (by decide +kernel) rfl).mp q) (by omega : ¬ (32 ≤ a2.toInt))) (fun _ => ?_)
  refine x_iconst (M := M_X12_isPoint) dX12_isPoint_10 ?_
  refine x_goto (M := M_X12_isPoint) (tgt := 15) dX12_isPoint_11 (by decide) ?_
  exact x_zret (M := M_X12_isPoint) dX12_isPoint_15 rfl (by decide) ⟨rfl, rfl⟩ (Nat.le_of_ble_eq_true rfl) (Nat.le_of_ble_eq_true rfl)
set_option maxRecDepth 10000 in
theorem q7528 {l : Launch} {E : EE} (hl : l.stackTraces = false) {h : HP} {dg : Int32} (o7501 : ob h 277 = some (.inr (15, ((RB dg).set 0 (.int (Int32.ofInt 0)))))) (o7502 : ob h 295 = some (.inl (0, 20, .inl (upd (fun _ => 0) 18 (Int32.ofInt 3))))) (o7503 : ob h 294 = some (.inl (1, 6000, .inr (.inl (fun _ => 0))))) (o7521 : ob h 296 = some (.inl (0, 20, .inl (upd (fun _ => 0) 18 (Int32.ofInt 1))))) : en_C l E M_X12_trim 0 0 0 [.ref 277, .int (Int32.ofInt 18)] h (pF none [295, 296] h (fun h' => ob h' 295 = some (.inl (0, 20, .inl (fun _ => 0))) ∧ ob h' 296 = some (.inl (0, 20, .inl (fun _ => 0))) ∧ True)) := by
  refine en_mk m_X12_trim rfl hl (Nat.le_of_ble_eq_true rfl) ?_
  refine x_aload_n (M := M_X12_trim) dX12_trim_0 rfl ?_
  refine x_getf (M := M_X12_trim) (ci := 15) (C := RX12) (T := TX12) (N := 135) (ty := tyX12) cl15 dX12_trim_1 o7501 37 (by decide) t_2428 (v := .ref 295) rfl ?_
  refine x_iload_n (M := M_X12_trim) dX12_trim_4 rfl ?_
  refine x_iald (M := M_X12_trim) dX12_trim_5 o7502 (vp_inD (by decide +kernel)) ?_
  refine x_top (M := M_X12_trim) (y := (Int32.ofInt 3)) (by decide +kernel) ?_
  refine x_if_le (M := M_X12_trim) (tgt := 46) dX12_trim_6 (by decide) (fun q => absurd q (by decide +kernel)) (fun _ => ?_)
  refine x_aload_n (M := M_X12_trim) dX12_trim_9 rfl ?_
  refine x_getf (M := M_X12_trim) (ci := 15) (C := RX12) (T := TX12) (N := 135) (ty := tyX12) cl15 dX12_trim_10 o7501 36 (by decide) t_2427 (v := .ref 294) rfl ?_
  refine x_sipush (M := M_X12_trim) dX12_trim_13 ?_
  refine x_iload_n (M := M_X12_trim) dX12_trim_16 rfl ?_
  refine x_imul (M := M_X12_trim) dX12_trim_17 ?_
  refine x_aload_n (M := M_X12_trim) dX12_trim_18 rfl ?_
  refine x_getf (M := M_X12_trim) (ci := 15) (C := RX12) (T := TX12) (N := 135) (ty := tyX12) cl15 dX12_trim_19 o7501 37 (by decide) t_2428 (v := .ref 295) rfl ?_
  refine x_iload_n (M := M_X12_trim) dX12_trim_22 rfl ?_
  refine x_iald (M := M_X12_trim) dX12_trim_23 o7502 (vp_inD (by decide +kernel)) ?_
  refine x_top (M := M_X12_trim) (y := (Int32.ofInt 3)) (by decide +kernel) ?_
  refine x_iadd (M := M_X12_trim) dX12_trim_24 ?_
  refine x_iconst (M := M_X12_trim) dX12_trim_25 ?_
  refine x_isub (M := M_X12_trim) dX12_trim_26 ?_
  refine x_lald (M := M_X12_trim) dX12_trim_27 o7503 (vp_inD (by decide +kernel)) ?_
  refine x_topl (M := M_X12_trim) (y := (Int64.ofInt 0)) (by decide +kernel) ?_
  refine x_lconst (M := M_X12_trim) dX12_trim_28 ?_
  refine x_lcmp (M := M_X12_trim) dX12_trim_29 ?_
  refine x_if_ne (M := M_X12_trim) (tgt := 46) dX12_trim_30 (by decide) (fun q => absurd q (by decide +kernel)) (fun _ => ?_)
  refine x_aload_n (M := M_X12_trim) dX12_trim_33 rfl ?_
  refine x_getf (M := M_X12_trim) (ci := 15) (C := RX12) (T := TX12) (N := 135) (ty := tyX12) cl15 dX12_trim_34 o7501 37 (by decide) t_2428 (v := .ref 295) rfl ?_
  refine x_iload_n (M := M_X12_trim) dX12_trim_37 rfl ?_
  refine x_dup2 (M := M_X12_trim) dX12_trim_38 rfl rfl ?_
  refine x_iald (M := M_X12_trim) dX12_trim_39 o7502 (vp_inD (by decide +kernel)) ?_
  refine x_top (M := M_X12_trim) (y := (Int32.ofInt 3)) (by decide +kernel) ?_
  refine x_iconst (M := M_X12_trim) dX12_trim_40 ?_
  refine x_isub (M := M_X12_trim) dX12_trim_41 ?_
  refine x_norm (M := M_X12_trim) (st' := [.int (Int32.ofInt 2), .int (Int32.ofInt 18), .ref 295]) rfl (vi_cons (by decide +kernel : ((Int32.ofInt 3) - (Int32.ofInt 1)) = (Int32.ofInt 2)) rfl) rfl rfl rfl ?_
  refine y_iast (M := M_X12_trim) (k := 18) dX12_trim_42 o7502 (vp_inD (by decide +kernel)) (by decide +kernel) (fun h7504 w7505 f7506 => ?_)
  have w7507 : ob h7504 295 = some (.inl (0, 20, .inl (upd (fun _ => 0) 18 (Int32.ofInt 2)))) := by rw [w7505, up_up (k := 18)]
  refine x_goto (M := M_X12_trim) (tgt := 0) dX12_trim_43 (by decide) ?_
  refine x_aload_n (M := M_X12_trim) dX12_trim_0 rfl ?_
  have o7508 := (f7506 277 _ (by decide) o7501)
  refine x_getf (M := M_X12_trim) (ci := 15) (C := RX12) (T := TX12) (N := 135) (ty := tyX12) cl15 dX12_trim_1 o7508 37 (by decide) t_2428 (v := .ref 295) rfl ?_
  refine x_iload_n (M := M_X12_trim) dX12_trim_4 rfl ?_
  refine x_iald (M := M_X12_trim) dX12_trim_5 w7507 (vp_inD (by decide +kernel)) ?_
  refine x_top (M := M_X12_trim) (y := (Int32.ofInt 2)) (by decide +kernel) ?_
  refine x_if_le (M := M_X12_trim) (tgt := 46) dX12_trim_6 (by decide) (fun q => absurd q (by decide +kernel)) (fun _ => ?_)
  refine x_aload_n (M := M_X12_trim) dX12_trim_9 rfl ?_
  refine x_getf (M := M_X12_trim) (ci := 15) (C := RX12) (T := TX12) (N := 135) (ty := tyX12) cl15 dX12_trim_10 o7508 36 (by decide) t_2427 (v := .ref 294) rfl ?_
  refine x_sipush (M := M_X12_trim) dX12_trim_13 ?_
  refine x_iload_n (M := M_X12_trim) dX12_trim_16 rfl ?_
  refine x_imul (M := M_X12_trim) dX12_trim_17 ?_
  refine x_aload_n (M := M_X12_trim) dX12_trim_18 rfl ?_
  refine x_getf (M := M_X12_trim) (ci := 15) (C := RX12) (T := TX12) (N := 135) (ty := tyX12) cl15 dX12_trim_19 o7508 37 (by decide) t_2428 (v := .ref 295) rfl ?_
  refine x_iload_n (M := M_X12_trim) dX12_trim_22 rfl ?_
  refine x_iald (M := M_X12_trim) dX12_trim_23 w7507 (vp_inD (by decide +kernel)) ?_
  refine x_top (M := M_X12_trim) (y := (Int32.ofInt 2)) (by decide +kernel) ?_
  refine x_iadd (M := M_X12_trim) dX12_trim_24 ?_
  refine x_iconst (M := M_X12_trim) dX12_trim_25 ?_
  refine x_isub (M := M_X12_trim) dX12_trim_26 ?_
  have o7509 := (f7506 294 _ (by decide) o7503)
  refine x_lald (M := M_X12_trim) dX12_trim_27 o7509 (vp_inD (by decide +kernel)) ?_
  refine x_topl (M := M_X12_trim) (y := (Int64.ofInt 0)) (by decide +kernel) ?_
  refine x_lconst (M := M_X12_trim) dX12_trim_28 ?_
  refine x_lcmp (M := M_X12_trim) dX12_trim_29 ?_
  refine x_if_ne (M := M_X12_trim) (tgt := 46) dX12_trim_30 (by decide) (fun q => absurd q (by decide +kernel)) (fun _ => ?_)
  refine x_aload_n (M := M_X12_trim) dX12_trim_33 rfl ?_
  refine x_getf (M := M_X12_trim) (ci := 15) (C := RX12) (T := TX12) (N := 135) (ty := tyX12) cl15 dX12_trim_34 o7508 37 (by decide) t_2428 (v := .ref 295) rfl ?_
  refine x_iload_n (M := M_X12_trim) dX12_trim_37 rfl ?_
  refine x_dup2 (M := M_X12_trim) dX12_trim_38 rfl rfl ?_
  refine x_iald (M := M_X12_trim) dX12_trim_39 w7507 (vp_inD (by decide +kernel)) ?_
  refine x_top (M := M_X12_trim) (y := (Int32.ofInt 2)) (by decide +kernel) ?_
  refine x_iconst (M := M_X12_trim) dX12_trim_40 ?_
  refine x_isub (M := M_X12_trim) dX12_trim_41 ?_
  refine x_norm (M := M_X12_trim) (st' := [.int (Int32.ofInt 1), .int (Int32.ofInt 18), .ref 295]) rfl (vi_cons (by decide +kernel : ((Int32.ofInt 2) - (Int32.ofInt 1)) = (Int32.ofInt 1)) rfl) rfl rfl rfl ?_
  refine y_iast (M := M_X12_trim) (k := 18) dX12_trim_42 w7507 (vp_inD (by decide +kernel)) (by decide +kernel) (fun h7510 w7511 f7512 => ?_)
  have w7513 : ob h7510 295 = some (.inl (0, 20, .inl (upd (fun _ => 0) 18 (Int32.ofInt 1)))) := by rw [w7511, up_up (k := 18)]
  refine x_goto (M := M_X12_trim) (tgt := 0) dX12_trim_43 (by decide) ?_
  refine x_aload_n (M := M_X12_trim) dX12_trim_0 rfl ?_
  have o7514 := (f7512 277 _ (by decide) o7508)
  refine x_getf (M := M_X12_trim) (ci := 15) (C := RX12) (T := TX12) (N := 135) (ty := tyX12) cl15 dX12_trim_1 o7514 37 (by decide) t_2428 (v := .ref 295) rfl ?_
  refine x_iload_n (M := M_X12_trim) dX12_trim_4 rfl ?_
  refine x_iald (M := M_X12_trim) dX12_trim_5 w7513 (vp_inD (by decide +kernel)) ?_
  refine x_top (M := M_X12_trim) (y := (Int32.ofInt 1)) (by decide +kernel) ?_
  refine x_if_le (M := M_X12_trim) (tgt := 46) dX12_trim_6 (by decide) (fun q => absurd q (by decide +kernel)) (fun _ => ?_)
  refine x_aload_n (M := M_X12_trim) dX12_trim_9 rfl ?_
  refine x_getf (M := M_X12_trim) (ci := 15) (C := RX12) (T := TX12) (N := 135) (ty := tyX12) cl15 dX12_trim_10 o7514 36 (by decide) t_2427 (v := .ref 294) rfl ?_
  refine x_sipush (M := M_X12_trim) dX12_trim_13 ?_
  refine x_iload_n (M := M_X12_trim) dX12_trim_16 rfl ?_
  refine x_imul (M := M_X12_trim) dX12_trim_17 ?_
  refine x_aload_n (M := M_X12_trim) dX12_trim_18 rfl ?_
  refine x_getf (M := M_X12_trim) (ci := 15) (C := RX12) (T := TX12) (N := 135) (ty := tyX12) cl15 dX12_trim_19 o7514 37 (by decide) t_2428 (v := .ref 295) rfl ?_
  refine x_iload_n (M := M_X12_trim) dX12_trim_22 rfl ?_
  refine x_iald (M := M_X12_trim) dX12_trim_23 w7513 (vp_inD (by decide +kernel)) ?_
  refine x_top (M := M_X12_trim) (y := (Int32.ofInt 1)) (by decide +kernel) ?_
  refine x_iadd (M := M_X12_trim) dX12_trim_24 ?_
  refine x_iconst (M := M_X12_trim) dX12_trim_25 ?_
  refine x_isub (M := M_X12_trim) dX12_trim_26 ?_
  have o7515 := (f7512 294 _ (by decide) o7509)
  refine x_lald (M := M_X12_trim) dX12_trim_27 o7515 (vp_inD (by decide +kernel)) ?_
  refine x_topl (M := M_X12_trim) (y := (Int64.ofInt 0)) (by decide +kernel) ?_
  refine x_lconst (M := M_X12_trim) dX12_trim_28 ?_
  refine x_lcmp (M := M_X12_trim) dX12_trim_29 ?_
  refine x_if_ne (M := M_X12_trim) (tgt := 46) dX12_trim_30 (by decide) (fun q => absurd q (by decide +kernel)) (fun _ => ?_)
  refine x_aload_n (M := M_X12_trim) dX12_trim_33 rfl ?_
  refine x_getf (M := M_X12_trim) (ci := 15) (C := RX12) (T := TX12) (N := 135) (ty := tyX12) cl15 dX12_trim_34 o7514 37 (by decide) t_2428 (v := .ref 295) rfl ?_
  refine x_iload_n (M := M_X12_trim) dX12_trim_37 rfl ?_
  refine x_dup2 (M := M_X12_trim) dX12_trim_38 rfl rfl ?_
  refine x_iald (M := M_X12_trim) dX12_trim_39 w7513 (vp_inD (by decide +kernel)) ?_
  refine x_top (M := M_X12_trim) (y := (Int32.ofInt 1)) (by decide +kernel) ?_
  refine x_iconst (M := M_X12_trim) dX12_trim_40 ?_
  refine x_isub (M := M_X12_trim) dX12_trim_41 ?_
  refine x_norm (M := M_X12_trim) (st' := [.int (Int32.ofInt 0), .int (Int32.ofInt 18), .ref 295]) rfl (vi_cons (by decide +kernel : ((Int32.ofInt 1) - (Int32.ofInt 1)) = (Int32.ofInt 0)) rfl) rfl rfl rfl ?_
  refine y_iast (M := M_X12_trim) (k := 18) dX12_trim_42 w7513 (vp_inD (by decide +kernel)) (by decide +kernel) (fun h7516 w7517 f7518 => ?_)
  have w7519 : ob h7516 295 = some (.inl (0, 20, .inl (fun _ => 0))) := by rw [w7517, up_up (k := 18), up_z (k := 18)]
  refine x_goto (M := M_X12_trim) (tgt := 0) dX12_trim_43 (by decide) ?_
  refine x_aload_n (M := M_X12_trim) dX12_trim_0 rfl ?_
  have o7520 := (f7518 277 _ (by decide) o7514)
  refine x_getf (M := M_X12_trim) (ci := 15) (C := RX12) (T := TX12) (N := 135) (ty := tyX12) cl15 dX12_trim_1 o7520 37 (by decide) t_2428 (v := .ref 295) rfl ?_
  refine x_iload_n (M := M_X12_trim) dX12_trim_4 rfl ?_
  refine x_iald (M := M_X12_trim) dX12_trim_5 w7519 (vp_inD (by decide +kernel)) ?_
  refine x_top (M := M_X12_trim) (y := (Int32.ofInt 0)) (by decide +kernel) ?_
  refine x_if_le (M := M_X12_trim) (tgt := 46) dX12_trim_6 (by decide) (fun _ => ?_) (fun q => absurd q (by decide +kernel))
  refine x_aload_n (M := M_X12_trim) dX12_trim_46 rfl ?_
  refine x_getf (M := M_X12_trim) (ci := 15) (C := RX12) (T := TX12) (N := 135) (ty := tyX12) cl15 dX12_trim_47 o7520 37 (by decide) t_2428 (v := .ref 295) rfl ?_
  refine x_iload_n (M := M_X12_trim) dX12_trim_50 rfl ?_
  refine x_iald (M := M_X12_trim) dX12_trim_51 w7519 (vp_inD (by decide +kernel)) ?_
  refine x_top (M := M_X12_trim) (y := (Int32.ofInt 0)) (by decide +kernel) ?_
  refine x_if_ne (M := M_X12_trim) (tgt := 62) dX12_trim_52 (by decide) (fun q => absurd q (by decide +kernel)) (fun _ => ?_)
  refine x_aload_n (M := M_X12_trim) dX12_trim_55 rfl ?_
  refine x_getf (M := M_X12_trim) (ci := 15) (C := RX12) (T := TX12) (N := 135) (ty := tyX12) cl15 dX12_trim_56 o7520 38 (by decide) t_2429 (v := .ref 296) rfl ?_
  refine x_iload_n (M := M_X12_trim) dX12_trim_59 rfl ?_
  refine x_iconst (M := M_X12_trim) dX12_trim_60 ?_
  have o7522 := (f7518 296 _ (by decide) (f7512 296 _ (by decide) (f7506 296 _ (by decide) o7521)))
  refine y_iast (M := M_X12_trim) (k := 18) dX12_trim_61 o7522 (vp_inD (by decide +kernel)) (by decide +kernel) (fun h7523 w7524 f7525 => ?_)
  have w7526 : ob h7523 296 = some (.inl (0, 20, .inl (fun _ => 0))) := by rw [w7524, up_up (k := 18), up_z (k := 18)]
  have o7527 := (f7525 295 _ (by decide) w7519)
  exact x_vret (M := M_X12_trim) dX12_trim_62 rfl ⟨rfl, (fr_tr f7525 (by decide) (fr_tr f7518 (by decide) (fr_tr f7512 (by decide) (fr_tr f7506 (by decide) fr_rf)))), ⟨o7527, w7526, trivial⟩⟩ (Nat.le_of_ble_eq_true rfl) (Nat.le_of_ble_eq_true rfl)
set_option maxRecDepth 10000 in
theorem q7538 {l : Launch} {E : EE} (hl : l.stackTraces = false) {h : HP} {dg : Int32} (o7473 : ob h 277 = some (.inr (15, ((RB dg).set 0 (.int (Int32.ofInt 0)))))) (o7474 : ob h 294 = some (.inl (1, 6000, .inr (.inl (fun _ => 0))))) (o7490 : ob h 295 = some (.inl (0, 20, .inl (fun _ => 0)))) (o7496 : ob h 296 = some (.inl (0, 20, .inl (fun _ => 0)))) : en_C l E M_X12_load 1 0 0 [.ref 277, .int (Int32.ofInt 18), .long (Int64.ofInt 0)] h (pF none [294, 295, 296] h (fun h' => ob h' 294 = some (.inl (1, 6000, .inr (.inl (fun _ => 0)))) ∧ ob h' 295 = some (.inl (0, 20, .inl (fun _ => 0))) ∧ ob h' 296 = some (.inl (0, 20, .inl (fun _ => 0))) ∧ True)) := by
  refine en_mk m_X12_load rfl hl (Nat.le_of_ble_eq_true rfl) ?_
  refine x_lload_n (M := M_X12_load) dX12_load_0 rfl ?_
  refine x_bipush (M := M_X12_load) dX12_load_1 ?_
  refine x_lushr (M := M_X12_load) dX12_load_3 ?_
  refine x_ldc2 (M := M_X12_load) dX12_load_4 t_2994 ?_
  refine x_land (M := M_X12_load) dX12_load_7 ?_
  refine x_l2i (M := M_X12_load) dX12_load_8 ?_
  refine x_top (M := M_X12_load) (y := (Int32.ofInt 0)) (by decide +kernel) ?_
  refine x_istore (M := M_X12_load) dX12_load_9 (Nat.le_of_ble_eq_true rfl) rfl ?_
  refine x_lload_n (M := M_X12_load) dX12_load_11 rfl ?_
  refine x_ldc2 (M := M_X12_load) dX12_load_12 t_2995 ?_
  refine x_land (M := M_X12_load) dX12_load_15 ?_
  refine x_topl (M := M_X12_load) (y := (Int64.ofInt 0)) (by decide +kernel) ?_
  refine x_lstore (M := M_X12_load) dX12_load_16 (Nat.le_of_ble_eq_true rfl) rfl ?_
  refine x_iload (M := M_X12_load) dX12_load_18 rfl ?_
  refine x_if_ne (M := M_X12_load) (tgt := 28) dX12_load_20 (by decide) (fun q => absurd q (by decide +kernel)) (fun _ => ?_)
  refine x_lload (M := M_X12_load) dX12_load_23 rfl ?_
  refine x_goto (M := M_X12_load) (tgt := 34) dX12_load_25 (by decide) ?_
  refine x_lstore (M := M_X12_load) dX12_load_34 (Nat.le_of_ble_eq_true rfl) rfl ?_
  refine x_iload (M := M_X12_load) dX12_load_36 rfl ?_
  refine x_if_ne (M := M_X12_load) (tgt := 45) dX12_load_38 (by decide) (fun q => absurd q (by decide +kernel)) (fun _ => ?_)
  refine x_iconst (M := M_X12_load) dX12_load_41 ?_
  refine x_goto (M := M_X12_load) (tgt := 49) dX12_load_42 (by decide) ?_
  refine x_istore (M := M_X12_load) dX12_load_49 (Nat.le_of_ble_eq_true rfl) rfl ?_
  refine x_iload (M := M_X12_load) dX12_load_51 rfl ?_
  refine x_bipush (M := M_X12_load) dX12_load_53 ?_
  refine x_idiv (M := M_X12_load) dX12_load_55 (by decide +kernel) ?_
  refine x_top (M := M_X12_load) (y := (Int32.ofInt 0)) (by decide +kernel) ?_
  refine x_istore (M := M_X12_load) dX12_load_56 (Nat.le_of_ble_eq_true rfl) rfl ?_
  refine x_lvs (M := M_X12_load) (lv' := [some (.ref 277), some (.int (Int32.ofInt 18)), some (.long (Int64.ofInt 0)), none, some (.int (Int32.ofInt 0)), some (.long (Int64.ofInt 0)), none, some (.int (Int32.ofInt 0)), some (.int (Int32.ofInt 0)), none, none, none, none, none]) rfl ?_
  refine x_iload (M := M_X12_load) dX12_load_58 rfl ?_
  refine x_bipush (M := M_X12_load) dX12_load_60 ?_
  refine x_irem (M := M_X12_load) dX12_load_62 (by decide +kernel) ?_
  refine x_top (M := M_X12_load) (y := (Int32.ofInt 0)) (by decide +kernel) ?_
  refine x_istore (M := M_X12_load) dX12_load_63 (Nat.le_of_ble_eq_true rfl) rfl ?_
  refine x_iconst (M := M_X12_load) dX12_load_65 ?_
  refine x_istore (M := M_X12_load) dX12_load_66 (Nat.le_of_ble_eq_true rfl) rfl ?_
  refine x_iload (M := M_X12_load) dX12_load_68 rfl ?_
  refine x_iload (M := M_X12_load) dX12_load_70 rfl ?_
  refine x_icmp_ge (M := M_X12_load) (tgt := 95) dX12_load_72 (by decide) (fun _ => ?_) (fun q => absurd q (by decide +kernel))
  refine x_lload (M := M_X12_load) dX12_load_95 rfl ?_
  refine x_ldc2 (M := M_X12_load) dX12_load_97 t_3169 ?_
  refine x_land (M := M_X12_load) dX12_load_100 ?_
  refine x_iload (M := M_X12_load) dX12_load_101 rfl ?_
  refine x_lshl (M := M_X12_load) dX12_load_103 ?_
  refine x_topl (M := M_X12_load) (y := (Int64.ofInt 0)) (by decide +kernel) ?_
  refine x_lstore (M := M_X12_load) dX12_load_104 (Nat.le_of_ble_eq_true rfl) rfl ?_
  refine x_lload (M := M_X12_load) dX12_load_106 rfl ?_
  refine x_bipush (M := M_X12_load) dX12_load_108 ?_
  refine x_lushr (M := M_X12_load) dX12_load_110 ?_
  refine x_iload (M := M_X12_load) dX12_load_111 rfl ?_
  refine x_lshl (M := M_X12_load) dX12_load_113 ?_
  refine x_lload (M := M_X12_load) dX12_load_114 rfl ?_
  refine x_bipush (M := M_X12_load) dX12_load_116 ?_
  refine x_lushr (M := M_X12_load) dX12_load_118 ?_
  refine x_ladd (M := M_X12_load) dX12_load_119 ?_
  refine x_topl (M := M_X12_load) (y := (Int64.ofInt 0)) (by decide +kernel) ?_
  refine x_lstore (M := M_X12_load) dX12_load_120 (Nat.le_of_ble_eq_true rfl) rfl ?_
  refine x_aload_n (M := M_X12_load) dX12_load_122 rfl ?_
  refine x_getf (M := M_X12_load) (ci := 15) (C := RX12) (T := TX12) (N := 135) (ty := tyX12) cl15 dX12_load_123 o7473 36 (by decide) t_2427 (v := .ref 294) rfl ?_
  refine x_sipush (M := M_X12_load) dX12_load_126 ?_
  refine x_iload_n (M := M_X12_load) dX12_load_129 rfl ?_
  refine x_imul (M := M_X12_load) dX12_load_130 ?_
  refine x_iload (M := M_X12_load) dX12_load_131 rfl ?_
  refine x_iadd (M := M_X12_load) dX12_load_133 ?_
  refine x_lload (M := M_X12_load) dX12_load_134 rfl ?_
  refine x_ldc2 (M := M_X12_load) dX12_load_136 t_3169 ?_
  refine x_land (M := M_X12_load) dX12_load_139 ?_
  refine x_norm (M := M_X12_load) (st' := [.long (Int64.ofInt 0), .int (Int32.ofInt 5400), .ref 294]) rfl (vj_cons (by decide +kernel : ((Int64.ofInt 0) &&& (4294967295 : Int64)) = (Int64.ofInt 0)) (vi_cons (by decide +kernel : ((((Int16.ofInt 300).toInt32) * (Int32.ofInt 18)) + (Int32.ofInt 0)) = (Int32.ofInt 5400)) rfl)) rfl rfl rfl ?_
  refine y_last (M := M_X12_load) (k := 5400) dX12_load_140 o7474 (vp_inD (by decide +kernel)) (by decide +kernel) (fun h7475 w7476 f7477 => ?_)
  have w7478 : ob h7475 294 = some (.inl (1, 6000, .inr (.inl (fun _ => 0)))) := by rw [w7476, uq_z (k := 5400)]
  refine x_aload_n (M := M_X12_load) dX12_load_141 rfl ?_
  have o7479 := (f7477 277 _ (by decide) o7473)
  refine x_getf (M := M_X12_load) (ci := 15) (C := RX12) (T := TX12) (N := 135) (ty := tyX12) cl15 dX12_load_142 o7479 36 (by decide) t_2427 (v := .ref 294) rfl ?_
  refine x_sipush (M := M_X12_load) dX12_load_145 ?_
  refine x_iload_n (M := M_X12_load) dX12_load_148 rfl ?_
  refine x_imul (M := M_X12_load) dX12_load_149 ?_
  refine x_iload (M := M_X12_load) dX12_load_150 rfl ?_
  refine x_iadd (M := M_X12_load) dX12_load_152 ?_
  refine x_iconst (M := M_X12_load) dX12_load_153 ?_
  refine x_iadd (M := M_X12_load) dX12_load_154 ?_
  refine x_lload (M := M_X12_load) dX12_load_155 rfl ?_
  refine x_ldc2 (M := M_X12_load) dX12_load_157 t_3169 ?_
  refine x_land (M := M_X12_load) dX12_load_160 ?_
  refine x_norm (M := M_X12_load) (st' := [.long (Int64.ofInt 0), .int (Int32.ofInt 5401), .ref 294]) rfl (vj_cons (by decide +kernel : ((Int64.ofInt 0) &&& (4294967295 : Int64)) = (Int64.ofInt 0)) (vi_cons (by decide +kernel : (((((Int16.ofInt 300).toInt32) * (Int32.ofInt 18)) + (Int32.ofInt 0)) + (Int32.ofInt 1)) = (Int32.ofInt 5401)) rfl)) rfl rfl rfl ?_
  refine y_last (M := M_X12_load) (k := 5401) dX12_load_161 w7478 (vp_inD (by decide +kernel)) (by decide +kernel) (fun h7480 w7481 f7482 => ?_)
  have w7483 : ob h7480 294 = some (.inl (1, 6000, .inr (.inl (fun _ => 0)))) := by rw [w7481, uq_z (k := 5401)]
  refine x_aload_n (M := M_X12_load) dX12_load_162 rfl ?_
  have o7484 := (f7482 277 _ (by decide) o7479)
  refine x_getf (M := M_X12_load) (ci := 15) (C := RX12) (T := TX12) (N := 135) (ty := tyX12) cl15 dX12_load_163 o7484 36 (by decide) t_2427 (v := .ref 294) rfl ?_
  refine x_sipush (M := M_X12_load) dX12_load_166 ?_
  refine x_iload_n (M := M_X12_load) dX12_load_169 rfl ?_
  refine x_imul (M := M_X12_load) dX12_load_170 ?_
  refine x_iload (M := M_X12_load) dX12_load_171 rfl ?_
  refine x_iadd (M := M_X12_load) dX12_load_173 ?_
  refine x_iconst (M := M_X12_load) dX12_load_174 ?_
  refine x_iadd (M := M_X12_load) dX12_load_175 ?_
  refine x_lload (M := M_X12_load) dX12_load_176 rfl ?_
  refine x_bipush (M := M_X12_load) dX12_load_178 ?_
  refine x_lushr (M := M_X12_load) dX12_load_180 ?_
  refine x_norm (M := M_X12_load) (st' := [.long (Int64.ofInt 0), .int (Int32.ofInt 5402), .ref 294]) rfl (vj_cons (by decide +kernel : (((Int64.ofInt 0).toUInt64 >>> (((Int8.ofInt 32).toInt32).toInt64.toUInt64 &&& Int64.toUInt64 63)).toInt64) = (Int64.ofInt 0)) (vi_cons (by decide +kernel : (((((Int16.ofInt 300).toInt32) * (Int32.ofInt 18)) + (Int32.ofInt 0)) + (Int32.ofInt 2)) = (Int32.ofInt 5402)) rfl)) rfl rfl rfl ?_
  refine y_last (M := M_X12_load) (k := 5402) dX12_load_181 w7483 (vp_inD (by decide +kernel)) (by decide +kernel) (fun h7485 w7486 f7487 => ?_)
  have w7488 : ob h7485 294 = some (.inl (1, 6000, .inr (.inl (fun _ => 0)))) := by rw [w7486, uq_z (k := 5402)]
  refine x_aload_n (M := M_X12_load) dX12_load_182 rfl ?_
  have o7489 := (f7487 277 _ (by decide) o7484)
  refine x_getf (M := M_X12_load) (ci := 15) (C := RX12) (T := TX12) (N := 135) (ty := tyX12) cl15 dX12_load_183 o7489 37 (by decide) t_2428 (v := .ref 295) rfl ?_
  refine x_iload_n (M := M_X12_load) dX12_load_186 rfl ?_
  refine x_iload (M := M_X12_load) dX12_load_187 rfl ?_
  refine x_iconst (M := M_X12_load) dX12_load_189 ?_
  refine x_iadd (M := M_X12_load) dX12_load_190 ?_
  refine x_norm (M := M_X12_load) (st' := [.int (Int32.ofInt 3), .int (Int32.ofInt 18), .ref 295]) rfl (vi_cons (by decide +kernel : ((Int32.ofInt 0) + (Int32.ofInt 3)) = (Int32.ofInt 3)) rfl) rfl rfl rfl ?_
  have o7491 := (f7487 295 _ (by decide) (f7482 295 _ (by decide) (f7477 295 _ (by decide) o7490)))
  refine y_iast (M := M_X12_load) (k := 18) dX12_load_191 o7491 (vp_inD (by decide +kernel)) (by decide +kernel) (fun h7492 w7493 f7494 => ?_)
  refine x_aload_n (M := M_X12_load) dX12_load_192 rfl ?_
  have o7495 := (f7494 277 _ (by decide) o7489)
  refine x_getf (M := M_X12_load) (ci := 15) (C := RX12) (T := TX12) (N := 135) (ty := tyX12) cl15 dX12_load_193 o7495 38 (by decide) t_2429 (v := .ref 296) rfl ?_
  refine x_iload_n (M := M_X12_load) dX12_load_196 rfl ?_
  refine x_lload_n (M := M_X12_load) dX12_load_197 rfl ?_
  refine x_lconst (M := M_X12_load) dX12_load_198 ?_
  refine x_lcmp (M := M_X12_load) dX12_load_199 ?_
  refine x_if_ge (M := M_X12_load) (tgt := 207) dX12_load_200 (by decide) (fun _ => ?_) (fun q => absurd q (by decide +kernel))
  refine x_iconst (M := M_X12_load) dX12_load_207 ?_
  have o7497 := (f7494 296 _ (by decide) (f7487 296 _ (by decide) (f7482 296 _ (by decide) (f7477 296 _ (by decide) o7496))))
  refine y_iast (M := M_X12_load) (k := 18) dX12_load_208 o7497 (vp_inD (by decide +kernel)) (by decide +kernel) (fun h7498 w7499 f7500 => ?_)
  refine x_aload_n (M := M_X12_load) dX12_load_209 rfl ?_
  refine x_iload_n (M := M_X12_load) dX12_load_210 rfl ?_
  have o7529 := (f7500 277 _ (by decide) o7495)
  have o7530 := (f7500 295 _ (by decide) w7493)
  have o7531 := (f7500 294 _ (by decide) (f7494 294 _ (by decide) w7488))
  refine y_callVR (M := M_X12_load) (M' := M_X12_trim) rfl rfl dX12_load_211 m_X12_trim t_3170 t_3172 s_213 (q7528 hl o7529 o7530 o7531 w7499) rfl rfl o7529 rfl (Nat.le_of_ble_eq_true rfl) (Nat.le_of_ble_eq_true rfl) (Nat.le_of_ble_eq_true rfl) (Nat.le_of_ble_eq_true rfl) (fun h7532 f7533 w7534 => ?_)
  obtain ⟨o7535, o7536, -⟩ := w7534
  have o7537 := (f7533 294 _ (by decide) o7531)
  exact x_vret (M := M_X12_load) dX12_load_214 rfl ⟨rfl, (fr_tr f7533 (by decide) (fr_tr f7500 (by decide) (fr_tr f7494 (by decide) (fr_tr f7487 (by decide) (fr_tr f7482 (by decide) (fr_tr f7477 (by decide) fr_rf)))))), ⟨o7537, o7535, o7536, trivial⟩⟩ (Nat.le_of_ble_eq_true rfl) (Nat.le_of_ble_eq_true rfl)
set_option maxRecDepth 10000 in
theorem q7605 {l : Launch} {E : EE} (hl : l.stackTraces = false) {h : HP} {dg : Int32} (o7578 : ob h 277 = some (.inr (15, ((RB dg).set 0 (.int (Int32.ofInt 0)))))) (o7579 : ob h 295 = some (.inl (0, 20, .inl (upd (fun _ => 0) 19 (Int32.ofInt 3))))) (o7580 : ob h 294 = some (.inl (1, 6000, .inr (.inl (fun _ => 0))))) (o7598 : ob h 296 = some (.inl (0, 20, .inl (upd (fun _ => 0) 19 (Int32.ofInt 1))))) : en_C l E M_X12_trim 0 0 0 [.ref 277, .int (Int32.ofInt 19)] h (pF none [295, 296] h (fun h' => ob h' 295 = some (.inl (0, 20, .inl (fun _ => 0))) ∧ ob h' 296 = some (.inl (0, 20, .inl (fun _ => 0))) ∧ True)) := by
  refine en_mk m_X12_trim rfl hl (Nat.le_of_ble_eq_true rfl) ?_
  refine x_aload_n (M := M_X12_trim) dX12_trim_0 rfl ?_
  refine x_getf (M := M_X12_trim) (ci := 15) (C := RX12) (T := TX12) (N := 135) (ty := tyX12) cl15 dX12_trim_1 o7578 37 (by decide) t_2428 (v := .ref 295) rfl ?_
  refine x_iload_n (M := M_X12_trim) dX12_trim_4 rfl ?_
  refine x_iald (M := M_X12_trim) dX12_trim_5 o7579 (vp_inD (by decide +kernel)) ?_
  refine x_top (M := M_X12_trim) (y := (Int32.ofInt 3)) (by decide +kernel) ?_
  refine x_if_le (M := M_X12_trim) (tgt := 46) dX12_trim_6 (by decide) (fun q => absurd q (by decide +kernel)) (fun _ => ?_)
  refine x_aload_n (M := M_X12_trim) dX12_trim_9 rfl ?_
  refine x_getf (M := M_X12_trim) (ci := 15) (C := RX12) (T := TX12) (N := 135) (ty := tyX12) cl15 dX12_trim_10 o7578 36 (by decide) t_2427 (v := .ref 294) rfl ?_
  refine x_sipush (M := M_X12_trim) dX12_trim_13 ?_
  refine x_iload_n (M := M_X12_trim) dX12_trim_16 rfl ?_
  refine x_imul (M := M_X12_trim) dX12_trim_17 ?_
  refine x_aload_n (M := M_X12_trim) dX12_trim_18 rfl ?_
  refine x_getf (M := M_X12_trim) (ci := 15) (C := RX12) (T := TX12) (N := 135) (ty := tyX12) cl15 dX12_trim_19 o7578 37 (by decide) t_2428 (v := .ref 295) rfl ?_
  refine x_iload_n (M := M_X12_trim) dX12_trim_22 rfl ?_
  refine x_iald (M := M_X12_trim) dX12_trim_23 o7579 (vp_inD (by decide +kernel)) ?_
  refine x_top (M := M_X12_trim) (y := (Int32.ofInt 3)) (by decide +kernel) ?_
  refine x_iadd (M := M_X12_trim) dX12_trim_24 ?_
  refine x_iconst (M := M_X12_trim) dX12_trim_25 ?_
  refine x_isub (M := M_X12_trim) dX12_trim_26 ?_
  refine x_lald (M := M_X12_trim) dX12_trim_27 o7580 (vp_inD (by decide +kernel)) ?_
  refine x_topl (M := M_X12_trim) (y := (Int64.ofInt 0)) (by decide +kernel) ?_
  refine x_lconst (M := M_X12_trim) dX12_trim_28 ?_
  refine x_lcmp (M := M_X12_trim) dX12_trim_29 ?_
  refine x_if_ne (M := M_X12_trim) (tgt := 46) dX12_trim_30 (by decide) (fun q => absurd q (by decide +kernel)) (fun _ => ?_)
  refine x_aload_n (M := M_X12_trim) dX12_trim_33 rfl ?_
  refine x_getf (M := M_X12_trim) (ci := 15) (C := RX12) (T := TX12) (N := 135) (ty := tyX12) cl15 dX12_trim_34 o7578 37 (by decide) t_2428 (v := .ref 295) rfl ?_
  refine x_iload_n (M := M_X12_trim) dX12_trim_37 rfl ?_
  refine x_dup2 (M := M_X12_trim) dX12_trim_38 rfl rfl ?_
  refine x_iald (M := M_X12_trim) dX12_trim_39 o7579 (vp_inD (by decide +kernel)) ?_
  refine x_top (M := M_X12_trim) (y := (Int32.ofInt 3)) (by decide +kernel) ?_
  refine x_iconst (M := M_X12_trim) dX12_trim_40 ?_
  refine x_isub (M := M_X12_trim) dX12_trim_41 ?_
  refine x_norm (M := M_X12_trim) (st' := [.int (Int32.ofInt 2), .int (Int32.ofInt 19), .ref 295]) rfl (vi_cons (by decide +kernel : ((Int32.ofInt 3) - (Int32.ofInt 1)) = (Int32.ofInt 2)) rfl) rfl rfl rfl ?_
  refine y_iast (M := M_X12_trim) (k := 19) dX12_trim_42 o7579 (vp_inD (by decide +kernel)) (by decide +kernel) (fun h7581 w7582 f7583 => ?_)
  have w7584 : ob h7581 295 = some (.inl (0, 20, .inl (upd (fun _ => 0) 19 (Int32.ofInt 2)))) := by rw [w7582, up_up (k := 19)]
  refine x_goto (M := M_X12_trim) (tgt := 0) dX12_trim_43 (by decide) ?_
  refine x_aload_n (M := M_X12_trim) dX12_trim_0 rfl ?_
  have o7585 := (f7583 277 _ (by decide) o7578)
  refine x_getf (M := M_X12_trim) (ci := 15) (C := RX12) (T := TX12) (N := 135) (ty := tyX12) cl15 dX12_trim_1 o7585 37 (by decide) t_2428 (v := .ref 295) rfl ?_
  refine x_iload_n (M := M_X12_trim) dX12_trim_4 rfl ?_
  refine x_iald (M := M_X12_trim) dX12_trim_5 w7584 (vp_inD (by decide +kernel)) ?_
  refine x_top (M := M_X12_trim) (y := (Int32.ofInt 2)) (by decide +kernel) ?_
  refine x_if_le (M := M_X12_trim) (tgt := 46) dX12_trim_6 (by decide) (fun q => absurd q (by decide +kernel)) (fun _ => ?_)
  refine x_aload_n (M := M_X12_trim) dX12_trim_9 rfl ?_
  refine x_getf (M := M_X12_trim) (ci := 15) (C := RX12) (T := TX12) (N := 135) (ty := tyX12) cl15 dX12_trim_10 o7585 36 (by decide) t_2427 (v := .ref 294) rfl ?_
  refine x_sipush (M := M_X12_trim) dX12_trim_13 ?_
  refine x_iload_n (M := M_X12_trim) dX12_trim_16 rfl ?_
  refine x_imul (M := M_X12_trim) dX12_trim_17 ?_
  refine x_aload_n (M := M_X12_trim) dX12_trim_18 rfl ?_
  refine x_getf (M := M_X12_trim) (ci := 15) (C := RX12) (T := TX12) (N := 135) (ty := tyX12) cl15 dX12_trim_19 o7585 37 (by decide) t_2428 (v := .ref 295) rfl ?_
  refine x_iload_n (M := M_X12_trim) dX12_trim_22 rfl ?_
  refine x_iald (M := M_X12_trim) dX12_trim_23 w7584 (vp_inD (by decide +kernel)) ?_
  refine x_top (M := M_X12_trim) (y := (Int32.ofInt 2)) (by decide +kernel) ?_
  refine x_iadd (M := M_X12_trim) dX12_trim_24 ?_
  refine x_iconst (M := M_X12_trim) dX12_trim_25 ?_
  refine x_isub (M := M_X12_trim) dX12_trim_26 ?_
  have o7586 := (f7583 294 _ (by decide) o7580)
  refine x_lald (M := M_X12_trim) dX12_trim_27 o7586 (vp_inD (by decide +kernel)) ?_
  refine x_topl (M := M_X12_trim) (y := (Int64.ofInt 0)) (by decide +kernel) ?_
  refine x_lconst (M := M_X12_trim) dX12_trim_28 ?_
  refine x_lcmp (M := M_X12_trim) dX12_trim_29 ?_
  refine x_if_ne (M := M_X12_trim) (tgt := 46) dX12_trim_30 (by decide) (fun q => absurd q (by decide +kernel)) (fun _ => ?_)
  refine x_aload_n (M := M_X12_trim) dX12_trim_33 rfl ?_
  refine x_getf (M := M_X12_trim) (ci := 15) (C := RX12) (T := TX12) (N := 135) (ty := tyX12) cl15 dX12_trim_34 o7585 37 (by decide) t_2428 (v := .ref 295) rfl ?_
  refine x_iload_n (M := M_X12_trim) dX12_trim_37 rfl ?_
  refine x_dup2 (M := M_X12_trim) dX12_trim_38 rfl rfl ?_
  refine x_iald (M := M_X12_trim) dX12_trim_39 w7584 (vp_inD (by decide +kernel)) ?_
  refine x_top (M := M_X12_trim) (y := (Int32.ofInt 2)) (by decide +kernel) ?_
  refine x_iconst (M := M_X12_trim) dX12_trim_40 ?_
  refine x_isub (M := M_X12_trim) dX12_trim_41 ?_
  refine x_norm (M := M_X12_trim) (st' := [.int (Int32.ofInt 1), .int (Int32.ofInt 19), .ref 295]) rfl (vi_cons (by decide +kernel : ((Int32.ofInt 2) - (Int32.ofInt 1)) = (Int32.ofInt 1)) rfl) rfl rfl rfl ?_
  refine y_iast (M := M_X12_trim) (k := 19) dX12_trim_42 w7584 (vp_inD (by decide +kernel)) (by decide +kernel) (fun h7587 w7588 f7589 => ?_)
  have w7590 : ob h7587 295 = some (.inl (0, 20, .inl (upd (fun _ => 0) 19 (Int32.ofInt 1)))) := by rw [w7588, up_up (k := 19)]
  refine x_goto (M := M_X12_trim) (tgt := 0) dX12_trim_43 (by decide) ?_
  refine x_aload_n (M := M_X12_trim) dX12_trim_0 rfl ?_
  have o7591 := (f7589 277 _ (by decide) o7585)
  refine x_getf (M := M_X12_trim) (ci := 15) (C := RX12) (T := TX12) (N := 135) (ty := tyX12) cl15 dX12_trim_1 o7591 37 (by decide) t_2428 (v := .ref 295) rfl ?_
  refine x_iload_n (M := M_X12_trim) dX12_trim_4 rfl ?_
  refine x_iald (M := M_X12_trim) dX12_trim_5 w7590 (vp_inD (by decide +kernel)) ?_
  refine x_top (M := M_X12_trim) (y := (Int32.ofInt 1)) (by decide +kernel) ?_
  refine x_if_le (M := M_X12_trim) (tgt := 46) dX12_trim_6 (by decide) (fun q => absurd q (by decide +kernel)) (fun _ => ?_)
  refine x_aload_n (M := M_X12_trim) dX12_trim_9 rfl ?_
  refine x_getf (M := M_X12_trim) (ci := 15) (C := RX12) (T := TX12) (N := 135) (ty := tyX12) cl15 dX12_trim_10 o7591 36 (by decide) t_2427 (v := .ref 294) rfl ?_
  refine x_sipush (M := M_X12_trim) dX12_trim_13 ?_
  refine x_iload_n (M := M_X12_trim) dX12_trim_16 rfl ?_
  refine x_imul (M := M_X12_trim) dX12_trim_17 ?_
  refine x_aload_n (M := M_X12_trim) dX12_trim_18 rfl ?_
  refine x_getf (M := M_X12_trim) (ci := 15) (C := RX12) (T := TX12) (N := 135) (ty := tyX12) cl15 dX12_trim_19 o7591 37 (by decide) t_2428 (v := .ref 295) rfl ?_
  refine x_iload_n (M := M_X12_trim) dX12_trim_22 rfl ?_
  refine x_iald (M := M_X12_trim) dX12_trim_23 w7590 (vp_inD (by decide +kernel)) ?_
  refine x_top (M := M_X12_trim) (y := (Int32.ofInt 1)) (by decide +kernel) ?_
  refine x_iadd (M := M_X12_trim) dX12_trim_24 ?_
  refine x_iconst (M := M_X12_trim) dX12_trim_25 ?_
  refine x_isub (M := M_X12_trim) dX12_trim_26 ?_
  have o7592 := (f7589 294 _ (by decide) o7586)
  refine x_lald (M := M_X12_trim) dX12_trim_27 o7592 (vp_inD (by decide +kernel)) ?_
  refine x_topl (M := M_X12_trim) (y := (Int64.ofInt 0)) (by decide +kernel) ?_
  refine x_lconst (M := M_X12_trim) dX12_trim_28 ?_
  refine x_lcmp (M := M_X12_trim) dX12_trim_29 ?_
  refine x_if_ne (M := M_X12_trim) (tgt := 46) dX12_trim_30 (by decide) (fun q => absurd q (by decide +kernel)) (fun _ => ?_)
  refine x_aload_n (M := M_X12_trim) dX12_trim_33 rfl ?_
  refine x_getf (M := M_X12_trim) (ci := 15) (C := RX12) (T := TX12) (N := 135) (ty := tyX12) cl15 dX12_trim_34 o7591 37 (by decide) t_2428 (v := .ref 295) rfl ?_
  refine x_iload_n (M := M_X12_trim) dX12_trim_37 rfl ?_
  refine x_dup2 (M := M_X12_trim) dX12_trim_38 rfl rfl ?_
  refine x_iald (M := M_X12_trim) dX12_trim_39 w7590 (vp_inD (by decide +kernel)) ?_
  refine x_top (M := M_X12_trim) (y := (Int32.ofInt 1)) (by decide +kernel) ?_
  refine x_iconst (M := M_X12_trim) dX12_trim_40 ?_
  refine x_isub (M := M_X12_trim) dX12_trim_41 ?_
  refine x_norm (M := M_X12_trim) (st' := [.int (Int32.ofInt 0), .int (Int32.ofInt 19), .ref 295]) rfl (vi_cons (by decide +kernel : ((Int32.ofInt 1) - (Int32.ofInt 1)) = (Int32.ofInt 0)) rfl) rfl rfl rfl ?_
  refine y_iast (M := M_X12_trim) (k := 19) dX12_trim_42 w7590 (vp_inD (by decide +kernel)) (by decide +kernel) (fun h7593 w7594 f7595 => ?_)
  have w7596 : ob h7593 295 = some (.inl (0, 20, .inl (fun _ => 0))) := by rw [w7594, up_up (k := 19), up_z (k := 19)]
  refine x_goto (M := M_X12_trim) (tgt := 0) dX12_trim_43 (by decide) ?_
  refine x_aload_n (M := M_X12_trim) dX12_trim_0 rfl ?_
  have o7597 := (f7595 277 _ (by decide) o7591)
  refine x_getf (M := M_X12_trim) (ci := 15) (C := RX12) (T := TX12) (N := 135) (ty := tyX12) cl15 dX12_trim_1 o7597 37 (by decide) t_2428 (v := .ref 295) rfl ?_
  refine x_iload_n (M := M_X12_trim) dX12_trim_4 rfl ?_
  refine x_iald (M := M_X12_trim) dX12_trim_5 w7596 (vp_inD (by decide +kernel)) ?_
  refine x_top (M := M_X12_trim) (y := (Int32.ofInt 0)) (by decide +kernel) ?_
  refine x_if_le (M := M_X12_trim) (tgt := 46) dX12_trim_6 (by decide) (fun _ => ?_) (fun q => absurd q (by decide +kernel))
  refine x_aload_n (M := M_X12_trim) dX12_trim_46 rfl ?_
  refine x_getf (M := M_X12_trim) (ci := 15) (C := RX12) (T := TX12) (N := 135) (ty := tyX12) cl15 dX12_trim_47 o7597 37 (by decide) t_2428 (v := .ref 295) rfl ?_
  refine x_iload_n (M := M_X12_trim) dX12_trim_50 rfl ?_
  refine x_iald (M := M_X12_trim) dX12_trim_51 w7596 (vp_inD (by decide +kernel)) ?_
  refine x_top (M := M_X12_trim) (y := (Int32.ofInt 0)) (by decide +kernel) ?_
  refine x_if_ne (M := M_X12_trim) (tgt := 62) dX12_trim_52 (by decide) (fun q => absurd q (by decide +kernel)) (fun _ => ?_)
  refine x_aload_n (M := M_X12_trim) dX12_trim_55 rfl ?_
  refine x_getf (M := M_X12_trim) (ci := 15) (C := RX12) (T := TX12) (N := 135) (ty := tyX12) cl15 dX12_trim_56 o7597 38 (by decide) t_2429 (v := .ref 296) rfl ?_
  refine x_iload_n (M := M_X12_trim) dX12_trim_59 rfl ?_
  refine x_iconst (M := M_X12_trim) dX12_trim_60 ?_
  have o7599 := (f7595 296 _ (by decide) (f7589 296 _ (by decide) (f7583 296 _ (by decide) o7598)))
  refine y_iast (M := M_X12_trim) (k := 19) dX12_trim_61 o7599 (vp_inD (by decide +kernel)) (by decide +kernel) (fun h7600 w7601 f7602 => ?_)
  have w7603 : ob h7600 296 = some (.inl (0, 20, .inl (fun _ => 0))) := by rw [w7601, up_up (k := 19), up_z (k := 19)]
  have o7604 := (f7602 295 _ (by decide) w7596)
  exact x_vret (M := M_X12_trim) dX12_trim_62 rfl ⟨rfl, (fr_tr f7602 (by decide) (fr_tr f7595 (by decide) (fr_tr f7589 (by decide) (fr_tr f7583 (by decide) fr_rf)))), ⟨o7604, w7603, trivial⟩⟩ (Nat.le_of_ble_eq_true rfl) (Nat.le_of_ble_eq_true rfl)
set_option maxRecDepth 10000 in
theorem q7615 {l : Launch} {E : EE} (hl : l.stackTraces = false) {h : HP} {dg : Int32} (o7550 : ob h 277 = some (.inr (15, ((RB dg).set 0 (.int (Int32.ofInt 0)))))) (o7551 : ob h 294 = some (.inl (1, 6000, .inr (.inl (fun _ => 0))))) (o7567 : ob h 295 = some (.inl (0, 20, .inl (fun _ => 0)))) (o7573 : ob h 296 = some (.inl (0, 20, .inl (fun _ => 0)))) : en_C l E M_X12_load 1 0 0 [.ref 277, .int (Int32.ofInt 19), .long (Int64.ofInt 0)] h (pF none [294, 295, 296] h (fun h' => ob h' 294 = some (.inl (1, 6000, .inr (.inl (fun _ => 0)))) ∧ ob h' 295 = some (.inl (0, 20, .inl (fun _ => 0))) ∧ ob h' 296 = some (.inl (0, 20, .inl (fun _ => 0))) ∧ True)) := by
  refine en_mk m_X12_load rfl hl (Nat.le_of_ble_eq_true rfl) ?_
  refine x_lload_n (M := M_X12_load) dX12_load_0 rfl ?_
  refine x_bipush (M := M_X12_load) dX12_load_1 ?_
  refine x_lushr (M := M_X12_load) dX12_load_3 ?_
  refine x_ldc2 (M := M_X12_load) dX12_load_4 t_2994 ?_
  refine x_land (M := M_X12_load) dX12_load_7 ?_
  refine x_l2i (M := M_X12_load) dX12_load_8 ?_
  refine x_top (M := M_X12_load) (y := (Int32.ofInt 0)) (by decide +kernel) ?_
  refine x_istore (M := M_X12_load) dX12_load_9 (Nat.le_of_ble_eq_true rfl) rfl ?_
  refine x_lload_n (M := M_X12_load) dX12_load_11 rfl ?_
  refine x_ldc2 (M := M_X12_load) dX12_load_12 t_2995 ?_
  refine x_land (M := M_X12_load) dX12_load_15 ?_
  refine x_topl (M := M_X12_load) (y := (Int64.ofInt 0)) (by decide +kernel) ?_
  refine x_lstore (M := M_X12_load) dX12_load_16 (Nat.le_of_ble_eq_true rfl) rfl ?_
  refine x_iload (M := M_X12_load) dX12_load_18 rfl ?_
  refine x_if_ne (M := M_X12_load) (tgt := 28) dX12_load_20 (by decide) (fun q => absurd q (by decide +kernel)) (fun _ => ?_)
  refine x_lload (M := M_X12_load) dX12_load_23 rfl ?_
  refine x_goto (M := M_X12_load) (tgt := 34) dX12_load_25 (by decide) ?_
  refine x_lstore (M := M_X12_load) dX12_load_34 (Nat.le_of_ble_eq_true rfl) rfl ?_
  refine x_iload (M := M_X12_load) dX12_load_36 rfl ?_
  refine x_if_ne (M := M_X12_load) (tgt := 45) dX12_load_38 (by decide) (fun q => absurd q (by decide +kernel)) (fun _ => ?_)
  refine x_iconst (M := M_X12_load) dX12_load_41 ?_
  refine x_goto (M := M_X12_load) (tgt := 49) dX12_load_42 (by decide) ?_
  refine x_istore (M := M_X12_load) dX12_load_49 (Nat.le_of_ble_eq_true rfl) rfl ?_
  refine x_iload (M := M_X12_load) dX12_load_51 rfl ?_
  refine x_bipush (M := M_X12_load) dX12_load_53 ?_
  refine x_idiv (M := M_X12_load) dX12_load_55 (by decide +kernel) ?_
  refine x_top (M := M_X12_load) (y := (Int32.ofInt 0)) (by decide +kernel) ?_
  refine x_istore (M := M_X12_load) dX12_load_56 (Nat.le_of_ble_eq_true rfl) rfl ?_
  refine x_lvs (M := M_X12_load) (lv' := [some (.ref 277), some (.int (Int32.ofInt 19)), some (.long (Int64.ofInt 0)), none, some (.int (Int32.ofInt 0)), some (.long (Int64.ofInt 0)), none, some (.int (Int32.ofInt 0)), some (.int (Int32.ofInt 0)), none, none, none, none, none]) rfl ?_
  refine x_iload (M := M_X12_load) dX12_load_58 rfl ?_
  refine x_bipush (M := M_X12_load) dX12_load_60 ?_
  refine x_irem (M := M_X12_load) dX12_load_62 (by decide +kernel) ?_
  refine x_top (M := M_X12_load) (y := (Int32.ofInt 0)) (by decide +kernel) ?_
  refine x_istore (M := M_X12_load) dX12_load_63 (Nat.le_of_ble_eq_true rfl) rfl ?_
  refine x_iconst (M := M_X12_load) dX12_load_65 ?_
  refine x_istore (M := M_X12_load) dX12_load_66 (Nat.le_of_ble_eq_true rfl) rfl ?_
  refine x_iload (M := M_X12_load) dX12_load_68 rfl ?_
  refine x_iload (M := M_X12_load) dX12_load_70 rfl ?_
  refine x_icmp_ge (M := M_X12_load) (tgt := 95) dX12_load_72 (by decide) (fun _ => ?_) (fun q => absurd q (by decide +kernel))
  refine x_lload (M := M_X12_load) dX12_load_95 rfl ?_
  refine x_ldc2 (M := M_X12_load) dX12_load_97 t_3169 ?_
  refine x_land (M := M_X12_load) dX12_load_100 ?_
  refine x_iload (M := M_X12_load) dX12_load_101 rfl ?_
  refine x_lshl (M := M_X12_load) dX12_load_103 ?_
  refine x_topl (M := M_X12_load) (y := (Int64.ofInt 0)) (by decide +kernel) ?_
  refine x_lstore (M := M_X12_load) dX12_load_104 (Nat.le_of_ble_eq_true rfl) rfl ?_
  refine x_lload (M := M_X12_load) dX12_load_106 rfl ?_
  refine x_bipush (M := M_X12_load) dX12_load_108 ?_
  refine x_lushr (M := M_X12_load) dX12_load_110 ?_
  refine x_iload (M := M_X12_load) dX12_load_111 rfl ?_
  refine x_lshl (M := M_X12_load) dX12_load_113 ?_
  refine x_lload (M := M_X12_load) dX12_load_114 rfl ?_
  refine x_bipush (M := M_X12_load) dX12_load_116 ?_
  refine x_lushr (M := M_X12_load) dX12_load_118 ?_
  refine x_ladd (M := M_X12_load) dX12_load_119 ?_
  refine x_topl (M := M_X12_load) (y := (Int64.ofInt 0)) (by decide +kernel) ?_
  refine x_lstore (M := M_X12_load) dX12_load_120 (Nat.le_of_ble_eq_true rfl) rfl ?_
  refine x_aload_n (M := M_X12_load) dX12_load_122 rfl ?_
  refine x_getf (M := M_X12_load) (ci := 15) (C := RX12) (T := TX12) (N := 135) (ty := tyX12) cl15 dX12_load_123 o7550 36 (by decide) t_2427 (v := .ref 294) rfl ?_
  refine x_sipush (M := M_X12_load) dX12_load_126 ?_
  refine x_iload_n (M := M_X12_load) dX12_load_129 rfl ?_
  refine x_imul (M := M_X12_load) dX12_load_130 ?_
  refine x_iload (M := M_X12_load) dX12_load_131 rfl ?_
  refine x_iadd (M := M_X12_load) dX12_load_133 ?_
  refine x_lload (M := M_X12_load) dX12_load_134 rfl ?_
  refine x_ldc2 (M := M_X12_load) dX12_load_136 t_3169 ?_
  refine x_land (M := M_X12_load) dX12_load_139 ?_
  refine x_norm (M := M_X12_load) (st' := [.long (Int64.ofInt 0), .int (Int32.ofInt 5700), .ref 294]) rfl (vj_cons (by decide +kernel : ((Int64.ofInt 0) &&& (4294967295 : Int64)) = (Int64.ofInt 0)) (vi_cons (by decide +kernel : ((((Int16.ofInt 300).toInt32) * (Int32.ofInt 19)) + (Int32.ofInt 0)) = (Int32.ofInt 5700)) rfl)) rfl rfl rfl ?_
  refine y_last (M := M_X12_load) (k := 5700) dX12_load_140 o7551 (vp_inD (by decide +kernel)) (by decide +kernel) (fun h7552 w7553 f7554 => ?_)
  have w7555 : ob h7552 294 = some (.inl (1, 6000, .inr (.inl (fun _ => 0)))) := by rw [w7553, uq_z (k := 5700)]
  refine x_aload_n (M := M_X12_load) dX12_load_141 rfl ?_
  have o7556 := (f7554 277 _ (by decide) o7550)
  refine x_getf (M := M_X12_load) (ci := 15) (C := RX12) (T := TX12) (N := 135) (ty := tyX12) cl15 dX12_load_142 o7556 36 (by decide) t_2427 (v := .ref 294) rfl ?_
  refine x_sipush (M := M_X12_load) dX12_load_145 ?_
  refine x_iload_n (M := M_X12_load) dX12_load_148 rfl ?_
  refine x_imul (M := M_X12_load) dX12_load_149 ?_
  refine x_iload (M := M_X12_load) dX12_load_150 rfl ?_
  refine x_iadd (M := M_X12_load) dX12_load_152 ?_
  refine x_iconst (M := M_X12_load) dX12_load_153 ?_
  refine x_iadd (M := M_X12_load) dX12_load_154 ?_
  refine x_lload (M := M_X12_load) dX12_load_155 rfl ?_
  refine x_ldc2 (M := M_X12_load) dX12_load_157 t_3169 ?_
  refine x_land (M := M_X12_load) dX12_load_160 ?_
  refine x_norm (M := M_X12_load) (st' := [.long (Int64.ofInt 0), .int (Int32.ofInt 5701), .ref 294]) rfl (vj_cons (by decide +kernel : ((Int64.ofInt 0) &&& (4294967295 : Int64)) = (Int64.ofInt 0)) (vi_cons (by decide +kernel : (((((Int16.ofInt 300).toInt32) * (Int32.ofInt 19)) + (Int32.ofInt 0)) + (Int32.ofInt 1)) = (Int32.ofInt 5701)) rfl)) rfl rfl rfl ?_
  refine y_last (M := M_X12_load) (k := 5701) dX12_load_161 w7555 (vp_inD (by decide +kernel)) (by decide +kernel) (fun h7557 w7558 f7559 => ?_)
  have w7560 : ob h7557 294 = some (.inl (1, 6000, .inr (.inl (fun _ => 0)))) := by rw [w7558, uq_z (k := 5701)]
  refine x_aload_n (M := M_X12_load) dX12_load_162 rfl ?_
  have o7561 := (f7559 277 _ (by decide) o7556)
  refine x_getf (M := M_X12_load) (ci := 15) (C := RX12) (T := TX12) (N := 135) (ty := tyX12) cl15 dX12_load_163 o7561 36 (by decide) t_2427 (v := .ref 294) rfl ?_
  refine x_sipush (M := M_X12_load) dX12_load_166 ?_
  refine x_iload_n (M := M_X12_load) dX12_load_169 rfl ?_
  refine x_imul (M := M_X12_load) dX12_load_170 ?_
  refine x_iload (M := M_X12_load) dX12_load_171 rfl ?_
  refine x_iadd (M := M_X12_load) dX12_load_173 ?_
  refine x_iconst (M := M_X12_load) dX12_load_174 ?_
  refine x_iadd (M := M_X12_load) dX12_load_175 ?_
  refine x_lload (M := M_X12_load) dX12_load_176 rfl ?_
  refine x_bipush (M := M_X12_load) dX12_load_178 ?_
  refine x_lushr (M := M_X12_load) dX12_load_180 ?_
  refine x_norm (M := M_X12_load) (st' := [.long (Int64.ofInt 0), .int (Int32.ofInt 5702), .ref 294]) rfl (vj_cons (by decide +kernel : (((Int64.ofInt 0).toUInt64 >>> (((Int8.ofInt 32).toInt32).toInt64.toUInt64 &&& Int64.toUInt64 63)).toInt64) = (Int64.ofInt 0)) (vi_cons (by decide +kernel : (((((Int16.ofInt 300).toInt32) * (Int32.ofInt 19)) + (Int32.ofInt 0)) + (Int32.ofInt 2)) = (Int32.ofInt 5702)) rfl)) rfl rfl rfl ?_
  refine y_last (M := M_X12_load) (k := 5702) dX12_load_181 w7560 (vp_inD (by decide +kernel)) (by decide +kernel) (fun h7562 w7563 f7564 => ?_)
  have w7565 : ob h7562 294 = some (.inl (1, 6000, .inr (.inl (fun _ => 0)))) := by rw [w7563, uq_z (k := 5702)]
  refine x_aload_n (M := M_X12_load) dX12_load_182 rfl ?_
  have o7566 := (f7564 277 _ (by decide) o7561)
  refine x_getf (M := M_X12_load) (ci := 15) (C := RX12) (T := TX12) (N := 135) (ty := tyX12) cl15 dX12_load_183 o7566 37 (by decide) t_2428 (v := .ref 295) rfl ?_
  refine x_iload_n (M := M_X12_load) dX12_load_186 rfl ?_
  refine x_iload (M := M_X12_load) dX12_load_187 rfl ?_
  refine x_iconst (M := M_X12_load) dX12_load_189 ?_
  refine x_iadd (M := M_X12_load) dX12_load_190 ?_
  refine x_norm (M := M_X12_load) (st' := [.int (Int32.ofInt 3), .int (Int32.ofInt 19), .ref 295]) rfl (vi_cons (by decide +kernel : ((Int32.ofInt 0) + (Int32.ofInt 3)) = (Int32.ofInt 3)) rfl) rfl rfl rfl ?_
  have o7568 := (f7564 295 _ (by decide) (f7559 295 _ (by decide) (f7554 295 _ (by decide) o7567)))
  refine y_iast (M := M_X12_load) (k := 19) dX12_load_191 o7568 (vp_inD (by decide +kernel)) (by decide +kernel) (fun h7569 w7570 f7571 => ?_)
  refine x_aload_n (M := M_X12_load) dX12_load_192 rfl ?_
  have o7572 := (f7571 277 _ (by decide) o7566)
  refine x_getf (M := M_X12_load) (ci := 15) (C := RX12) (T := TX12) (N := 135) (ty := tyX12) cl15 dX12_load_193 o7572 38 (by decide) t_2429 (v := .ref 296) rfl ?_
  refine x_iload_n (M := M_X12_load) dX12_load_196 rfl ?_
  refine x_lload_n (M := M_X12_load) dX12_load_197 rfl ?_
  refine x_lconst (M := M_X12_load) dX12_load_198 ?_
  refine x_lcmp (M := M_X12_load) dX12_load_199 ?_
  refine x_if_ge (M := M_X12_load) (tgt := 207) dX12_load_200 (by decide) (fun _ => ?_) (fun q => absurd q (by decide +kernel))
  refine x_iconst (M := M_X12_load) dX12_load_207 ?_
  have o7574 := (f7571 296 _ (by decide) (f7564 296 _ (by decide) (f7559 296 _ (by decide) (f7554 296 _ (by decide) o7573))))
  refine y_iast (M := M_X12_load) (k := 19) dX12_load_208 o7574 (vp_inD (by decide +kernel)) (by decide +kernel) (fun h7575 w7576 f7577 => ?_)
  refine x_aload_n (M := M_X12_load) dX12_load_209 rfl ?_
  refine x_iload_n (M := M_X12_load) dX12_load_210 rfl ?_
  have o7606 := (f7577 277 _ (by decide) o7572)
  have o7607 := (f7577 295 _ (by decide) w7570)
  have o7608 := (f7577 294 _ (by decide) (f7571 294 _ (by decide) w7565))
  refine y_callVR (M := M_X12_load) (M' := M_X12_trim) rfl rfl dX12_load_211 m_X12_trim t_3170 t_3172 s_213 (q7605 hl o7606 o7607 o7608 w7576) rfl rfl o7606 rfl (Nat.le_of_ble_eq_true rfl) (Nat.le_of_ble_eq_true rfl) (Nat.le_of_ble_eq_true rfl) (Nat.le_of_ble_eq_true rfl) (fun h7609 f7610 w7611 => ?_)
  obtain ⟨o7612, o7613, -⟩ := w7611
  have o7614 := (f7610 294 _ (by decide) o7608)
  exact x_vret (M := M_X12_load) dX12_load_214 rfl ⟨rfl, (fr_tr f7610 (by decide) (fr_tr f7577 (by decide) (fr_tr f7571 (by decide) (fr_tr f7564 (by decide) (fr_tr f7559 (by decide) (fr_tr f7554 (by decide) fr_rf)))))), ⟨o7614, o7612, o7613, trivial⟩⟩ (Nat.le_of_ble_eq_true rfl) (Nat.le_of_ble_eq_true rfl)
set_option maxRecDepth 10000 in
theorem q7628 {l : Launch} {E : EE} (hl : l.stackTraces = false) {h : HP} {dg : Int32} (o7626 : ob h 277 = some (.inr (15, ((RB dg).set 0 (.int (Int32.ofInt 0)))))) (o7627 : ob h 295 = some (.inl (0, 20, .inl (fun _ => 0)))) : en_C l E M_X12_limb 0 0 0 [.ref 277, .int (Int32.ofInt 18), .int (Int32.ofInt 0)] h (pR (some (.long (Int64.ofInt 0))) h) := by
  refine en_mk m_X12_limb rfl hl (Nat.le_of_ble_eq_true rfl) ?_
  refine x_iload_n (M := M_X12_limb) dX12_limb_0 rfl ?_
  refine x_aload_n (M := M_X12_limb) dX12_limb_1 rfl ?_
  refine x_getf (M := M_X12_limb) (ci := 15) (C := RX12) (T := TX12) (N := 135) (ty := tyX12) cl15 dX12_limb_2 o7626 37 (by decide) t_2428 (v := .ref 295) rfl ?_
  refine x_iload_n (M := M_X12_limb) dX12_limb_5 rfl ?_
  refine x_iald (M := M_X12_limb) dX12_limb_6 o7627 (vp_inD (by decide +kernel)) ?_
  refine x_top (M := M_X12_limb) (y := (Int32.ofInt 0)) (by decide +kernel) ?_
  refine x_icmp_ge (M := M_X12_limb) (tgt := 25) dX12_limb_7 (by decide) (fun _ => ?_) (fun q => absurd q (by decide +kernel))
  refine x_lconst (M := M_X12_limb) dX12_limb_25 ?_
  refine x_topl (M := M_X12_limb) (y := (Int64.ofInt 0)) (by decide +kernel) ?_
  exact x_lret (M := M_X12_limb) dX12_limb_26 rfl ⟨rfl, rfl⟩ (Nat.le_of_ble_eq_true rfl) (Nat.le_of_ble_eq_true rfl)
set_option maxRecDepth 10000 in
theorem q7631 {l : Launch} {E : EE} (hl : l.stackTraces = false) {h : HP} {dg : Int32} (o7629 : ob h 277 = some (.inr (15, ((RB dg).set 0 (.int (Int32.ofInt 0)))))) (o7630 : ob h 295 = some (.inl (0, 20, .inl (fun _ => 0)))) : en_C l E M_X12_limb 0 0 0 [.ref 277, .int (Int32.ofInt 19), .int (Int32.ofInt 0)] h (pR (some (.long (Int64.ofInt 0))) h) := by
  refine en_mk m_X12_limb rfl hl (Nat.le_of_ble_eq_true rfl) ?_
  refine x_iload_n (M := M_X12_limb) dX12_limb_0 rfl ?_
  refine x_aload_n (M := M_X12_limb) dX12_limb_1 rfl ?_
  refine x_getf (M := M_X12_limb) (ci := 15) (C := RX12) (T := TX12) (N := 135) (ty := tyX12) cl15 dX12_limb_2 o7629 37 (by decide) t_2428 (v := .ref 295) rfl ?_
  refine x_iload_n (M := M_X12_limb) dX12_limb_5 rfl ?_
  refine x_iald (M := M_X12_limb) dX12_limb_6 o7630 (vp_inD (by decide +kernel)) ?_
  refine x_top (M := M_X12_limb) (y := (Int32.ofInt 0)) (by decide +kernel) ?_
  refine x_icmp_ge (M := M_X12_limb) (tgt := 25) dX12_limb_7 (by decide) (fun _ => ?_) (fun q => absurd q (by decide +kernel))
  refine x_lconst (M := M_X12_limb) dX12_limb_25 ?_
  refine x_topl (M := M_X12_limb) (y := (Int64.ofInt 0)) (by decide +kernel) ?_
  exact x_lret (M := M_X12_limb) dX12_limb_26 rfl ⟨rfl, rfl⟩ (Nat.le_of_ble_eq_true rfl) (Nat.le_of_ble_eq_true rfl)
set_option maxRecDepth 10000 in
theorem q7643 {l : Launch} {E : EE} (hl : l.stackTraces = false) {h : HP} {dg : Int32} (o7624 : ob h 277 = some (.inr (15, ((RB dg).set 0 (.int (Int32.ofInt 0)))))) (o7625 : ob h 295 = some (.inl (0, 20, .inl (fun _ => 0)))) (o7632 : ob h 294 = some (.inl (1, 6000, .inr (.inl (fun _ => 0))))) : en_C l E M_X12_addSizes 1 0 0 [.ref 277, .int (Int32.ofInt 0), .int (Int32.ofInt 18), .int (Int32.ofInt 19)] h (pF none [294, 295] h (fun h' => ob h' 294 = some (.inl (1, 6000, .inr (.inl (fun _ => 0)))) ∧ ob h' 295 = some (.inl (0, 20, .inl (upd (fun _ => 0) 0 (Int32.ofInt 1)))) ∧ True)) := by
  refine en_mk m_X12_addSizes rfl hl (Nat.le_of_ble_eq_true rfl) ?_
  refine x_aload_n (M := M_X12_addSizes) dX12_addSizes_0 rfl ?_
  refine x_getf (M := M_X12_addSizes) (ci := 15) (C := RX12) (T := TX12) (N := 135) (ty := tyX12) cl15 dX12_addSizes_1 o7624 37 (by decide) t_2428 (v := .ref 295) rfl ?_
  refine x_iload_n (M := M_X12_addSizes) dX12_addSizes_4 rfl ?_
  refine x_iald (M := M_X12_addSizes) dX12_addSizes_5 o7625 (vp_inD (by decide +kernel)) ?_
  refine x_top (M := M_X12_addSizes) (y := (Int32.ofInt 0)) (by decide +kernel) ?_
  refine x_aload_n (M := M_X12_addSizes) dX12_addSizes_6 rfl ?_
  refine x_getf (M := M_X12_addSizes) (ci := 15) (C := RX12) (T := TX12) (N := 135) (ty := tyX12) cl15 dX12_addSizes_7 o7624 37 (by decide) t_2428 (v := .ref 295) rfl ?_
  refine x_iload_n (M := M_X12_addSizes) dX12_addSizes_10 rfl ?_
  refine x_iald (M := M_X12_addSizes) dX12_addSizes_11 o7625 (vp_inD (by decide +kernel)) ?_
  refine x_top (M := M_X12_addSizes) (y := (Int32.ofInt 0)) (by decide +kernel) ?_
  refine x_icmp_le (M := M_X12_addSizes) (tgt := 24) dX12_addSizes_12 (by decide) (fun _ => ?_) (fun q => absurd q (by decide +kernel))
  refine x_aload_n (M := M_X12_addSizes) dX12_addSizes_24 rfl ?_
  refine x_getf (M := M_X12_addSizes) (ci := 15) (C := RX12) (T := TX12) (N := 135) (ty := tyX12) cl15 dX12_addSizes_25 o7624 37 (by decide) t_2428 (v := .ref 295) rfl ?_
  refine x_iload_n (M := M_X12_addSizes) dX12_addSizes_28 rfl ?_
  refine x_iald (M := M_X12_addSizes) dX12_addSizes_29 o7625 (vp_inD (by decide +kernel)) ?_
  refine x_top (M := M_X12_addSizes) (y := (Int32.ofInt 0)) (by decide +kernel) ?_
  refine x_iconst (M := M_X12_addSizes) dX12_addSizes_30 ?_
  refine x_iadd (M := M_X12_addSizes) dX12_addSizes_31 ?_
  refine x_top (M := M_X12_addSizes) (y := (Int32.ofInt 1)) (by decide +kernel) ?_
  refine x_istore (M := M_X12_addSizes) dX12_addSizes_32 (Nat.le_of_ble_eq_true rfl) rfl ?_
  refine x_lconst (M := M_X12_addSizes) dX12_addSizes_34 ?_
  refine x_topl (M := M_X12_addSizes) (y := (Int64.ofInt 0)) (by decide +kernel) ?_
  refine x_lstore (M := M_X12_addSizes) dX12_addSizes_35 (Nat.le_of_ble_eq_true rfl) rfl ?_
  refine x_iconst (M := M_X12_addSizes) dX12_addSizes_37 ?_
  refine x_istore (M := M_X12_addSizes) dX12_addSizes_38 (Nat.le_of_ble_eq_true rfl) rfl ?_
  refine x_iload (M := M_X12_addSizes) dX12_addSizes_40 rfl ?_
  refine x_iload (M := M_X12_addSizes) dX12_addSizes_42 rfl ?_
  refine x_icmp_ge (M := M_X12_addSizes) (tgt := 99) dX12_addSizes_44 (by decide) (fun q => absurd q (by decide +kernel)) (fun _ => ?_)
  refine x_lload (M := M_X12_addSizes) dX12_addSizes_47 rfl ?_
  refine x_aload_n (M := M_X12_addSizes) dX12_addSizes_49 rfl ?_
  refine x_iload_n (M := M_X12_addSizes) dX12_addSizes_50 rfl ?_
  refine x_iload (M := M_X12_addSizes) dX12_addSizes_51 rfl ?_
  refine x_callVR (M := M_X12_addSizes) (M' := M_X12_limb) rfl rfl dX12_addSizes_53 m_X12_limb t_3182 t_3184 s_216 (q7628 hl o7624 o7625) rfl rfl o7624 rfl (Nat.le_of_ble_eq_true rfl) (Nat.le_of_ble_eq_true rfl) (Nat.le_of_ble_eq_true rfl) (Nat.le_of_ble_eq_true rfl) ?_
  refine x_aload_n (M := M_X12_addSizes) dX12_addSizes_56 rfl ?_
  refine x_iload_n (M := M_X12_addSizes) dX12_addSizes_57 rfl ?_
  refine x_iload (M := M_X12_addSizes) dX12_addSizes_58 rfl ?_
  refine x_callVR (M := M_X12_addSizes) (M' := M_X12_limb) rfl rfl dX12_addSizes_60 m_X12_limb t_3182 t_3184 s_216 (q7631 hl o7624 o7625) rfl rfl o7624 rfl (Nat.le_of_ble_eq_true rfl) (Nat.le_of_ble_eq_true rfl) (Nat.le_of_ble_eq_true rfl) (Nat.le_of_ble_eq_true rfl) ?_
  refine x_ladd (M := M_X12_addSizes) dX12_addSizes_63 ?_
  refine x_ladd (M := M_X12_addSizes) dX12_addSizes_64 ?_
  refine x_topl (M := M_X12_addSizes) (y := (Int64.ofInt 0)) (by decide +kernel) ?_
  refine x_lstore (M := M_X12_addSizes) dX12_addSizes_65 (Nat.le_of_ble_eq_true rfl) rfl ?_
  refine x_aload_n (M := M_X12_addSizes) dX12_addSizes_67 rfl ?_
  refine x_getf (M := M_X12_addSizes) (ci := 15) (C := RX12) (T := TX12) (N := 135) (ty := tyX12) cl15 dX12_addSizes_68 o7624 36 (by decide) t_2427 (v := .ref 294) rfl ?_
  refine x_sipush (M := M_X12_addSizes) dX12_addSizes_71 ?_
  refine x_iload_n (M := M_X12_addSizes) dX12_addSizes_74 rfl ?_
  refine x_imul (M := M_X12_addSizes) dX12_addSizes_75 ?_
  refine x_iload (M := M_X12_addSizes) dX12_addSizes_76 rfl ?_
  refine x_iadd (M := M_X12_addSizes) dX12_addSizes_78 ?_
  refine x_lload (M := M_X12_addSizes) dX12_addSizes_79 rfl ?_
  refine x_ldc2 (M := M_X12_addSizes) dX12_addSizes_81 t_3169 ?_
  refine x_land (M := M_X12_addSizes) dX12_addSizes_84 ?_
  refine x_norm (M := M_X12_addSizes) (st' := [.long (Int64.ofInt 0), .int (Int32.ofInt 0), .ref 294]) rfl (vj_cons (by decide +kernel : ((Int64.ofInt 0) &&& (4294967295 : Int64)) = (Int64.ofInt 0)) (vi_cons (by decide +kernel : ((((Int16.ofInt 300).toInt32) * (Int32.ofInt 0)) + (Int32.ofInt 0)) = (Int32.ofInt 0)) rfl)) rfl rfl rfl ?_
  refine y_last (M := M_X12_addSizes) (k := 0) dX12_addSizes_85 o7632 (vp_inD (by decide +kernel)) (by decide +kernel) (fun h7633 w7634 f7635 => ?_)
  have w7636 : ob h7633 294 = some (.inl (1, 6000, .inr (.inl (fun _ => 0)))) := by rw [w7634, uq_z (k := 0)]
  refine x_lload (M := M_X12_addSizes) dX12_addSizes_86 rfl ?_
  refine x_bipush (M := M_X12_addSizes) dX12_addSizes_88 ?_
  refine x_lushr (M := M_X12_addSizes) dX12_addSizes_90 ?_
  refine x_topl (M := M_X12_addSizes) (y := (Int64.ofInt 0)) (by decide +kernel) ?_
  refine x_lstore (M := M_X12_addSizes) dX12_addSizes_91 (Nat.le_of_ble_eq_true rfl) rfl ?_
  refine x_lvs (M := M_X12_addSizes) (lv' := [some (.ref 277), some (.int (Int32.ofInt 0)), some (.int (Int32.ofInt 18)), some (.int (Int32.ofInt 19)), some (.int (Int32.ofInt 1)), some (.long (Int64.ofInt 0)), none, some (.int (Int32.ofInt 0))]) rfl ?_
  refine x_iinc (M := M_X12_addSizes) dX12_addSizes_93 rfl (Nat.le_of_ble_eq_true rfl) rfl ?_
  refine x_lvs (M := M_X12_addSizes) (lv' := [some (.ref 277), some (.int (Int32.ofInt 0)), some (.int (Int32.ofInt 18)), some (.int (Int32.ofInt 19)), some (.int (Int32.ofInt 1)), some (.long (Int64.ofInt 0)), none, some (.int (Int32.ofInt 1))]) (by rw [(by decide +kernel : (Int32.ofInt 0) + Int32.ofInt 1 = (Int32.ofInt 1))] <;> rfl) ?_
  refine x_goto (M := M_X12_addSizes) (tgt := 40) dX12_addSizes_96 (by decide) ?_
  refine x_iload (M := M_X12_addSizes) dX12_addSizes_40 rfl ?_
  refine x_iload (M := M_X12_addSizes) dX12_addSizes_42 rfl ?_
  refine x_icmp_ge (M := M_X12_addSizes) (tgt := 99) dX12_addSizes_44 (by decide) (fun _ => ?_) (fun q => absurd q (by decide +kernel))
  refine x_aload_n (M := M_X12_addSizes) dX12_addSizes_99 rfl ?_
  have o7637 := (f7635 277 _ (by decide) o7624)
  refine x_getf (M := M_X12_addSizes) (ci := 15) (C := RX12) (T := TX12) (N := 135) (ty := tyX12) cl15 dX12_addSizes_100 o7637 37 (by decide) t_2428 (v := .ref 295) rfl ?_
  refine x_iload_n (M := M_X12_addSizes) dX12_addSizes_103 rfl ?_
  refine x_iload (M := M_X12_addSizes) dX12_addSizes_104 rfl ?_
  have o7638 := (f7635 295 _ (by decide) o7625)
  refine y_iast (M := M_X12_addSizes) (k := 0) dX12_addSizes_106 o7638 (vp_inD (by decide +kernel)) (by decide +kernel) (fun h7639 w7640 f7641 => ?_)
  have o7642 := (f7641 294 _ (by decide) w7636)
  exact x_vret (M := M_X12_addSizes) dX12_addSizes_107 rfl ⟨rfl, (fr_tr f7641 (by decide) (fr_tr f7635 (by decide) fr_rf)), ⟨o7642, w7640, trivial⟩⟩ (Nat.le_of_ble_eq_true rfl) (Nat.le_of_ble_eq_true rfl)
set_option maxRecDepth 10000 in
theorem q7672 {l : Launch} {E : EE} (hl : l.stackTraces = false) {h : HP} {dg : Int32} (o7657 : ob h 277 = some (.inr (15, ((RB dg).set 0 (.int (Int32.ofInt 0)))))) (o7658 : ob h 295 = some (.inl (0, 20, .inl (upd (fun _ => 0) 0 (Int32.ofInt 1))))) (o7659 : ob h 294 = some (.inl (1, 6000, .inr (.inl (fun _ => 0))))) (o7665 : ob h 296 = some (.inl (0, 20, .inl (fun _ => 0)))) : en_C l E M_X12_trim 0 0 0 [.ref 277, .int (Int32.ofInt 0)] h (pF none [295, 296] h (fun h' => ob h' 295 = some (.inl (0, 20, .inl (fun _ => 0))) ∧ ob h' 296 = some (.inl (0, 20, .inl (fun _ => 0))) ∧ True)) := by
  refine en_mk m_X12_trim rfl hl (Nat.le_of_ble_eq_true rfl) ?_
  refine x_aload_n (M := M_X12_trim) dX12_trim_0 rfl ?_
  refine x_getf (M := M_X12_trim) (ci := 15) (C := RX12) (T := TX12) (N := 135) (ty := tyX12) cl15 dX12_trim_1 o7657 37 (by decide) t_2428 (v := .ref 295) rfl ?_
  refine x_iload_n (M := M_X12_trim) dX12_trim_4 rfl ?_
  refine x_iald (M := M_X12_trim) dX12_trim_5 o7658 (vp_inD (by decide +kernel)) ?_
  refine x_top (M := M_X12_trim) (y := (Int32.ofInt 1)) (by decide +kernel) ?_
  refine x_if_le (M := M_X12_trim) (tgt := 46) dX12_trim_6 (by decide) (fun q => absurd q (by decide +kernel)) (fun _ => ?_)
  refine x_aload_n (M := M_X12_trim) dX12_trim_9 rfl ?_
  refine x_getf (M := M_X12_trim) (ci := 15) (C := RX12) (T := TX12) (N := 135) (ty := tyX12) cl15 dX12_trim_10 o7657 36 (by decide) t_2427 (v := .ref 294) rfl ?_
  refine x_sipush (M := M_X12_trim) dX12_trim_13 ?_
  refine x_iload_n (M := M_X12_trim) dX12_trim_16 rfl ?_
  refine x_imul (M := M_X12_trim) dX12_trim_17 ?_
  refine x_aload_n (M := M_X12_trim) dX12_trim_18 rfl ?_
  refine x_getf (M := M_X12_trim) (ci := 15) (C := RX12) (T := TX12) (N := 135) (ty := tyX12) cl15 dX12_trim_19 o7657 37 (by decide) t_2428 (v := .ref 295) rfl ?_
  refine x_iload_n (M := M_X12_trim) dX12_trim_22 rfl ?_
  refine x_iald (M := M_X12_trim) dX12_trim_23 o7658 (vp_inD (by decide +kernel)) ?_
  refine x_top (M := M_X12_trim) (y := (Int32.ofInt 1)) (by decide +kernel) ?_
  refine x_iadd (M := M_X12_trim) dX12_trim_24 ?_
  refine x_iconst (M := M_X12_trim) dX12_trim_25 ?_
  refine x_isub (M := M_X12_trim) dX12_trim_26 ?_
  refine x_lald (M := M_X12_trim) dX12_trim_27 o7659 (vp_inD (by decide +kernel)) ?_
  refine x_topl (M := M_X12_trim) (y := (Int64.ofInt 0)) (by decide +kernel) ?_
  refine x_lconst (M := M_X12_trim) dX12_trim_28 ?_
  refine x_lcmp (M := M_X12_trim) dX12_trim_29 ?_
  refine x_if_ne (M := M_X12_trim) (tgt := 46) dX12_trim_30 (by decide) (fun q => absurd q (by decide +kernel)) (fun _ => ?_)
  refine x_aload_n (M := M_X12_trim) dX12_trim_33 rfl ?_
  refine x_getf (M := M_X12_trim) (ci := 15) (C := RX12) (T := TX12) (N := 135) (ty := tyX12) cl15 dX12_trim_34 o7657 37 (by decide) t_2428 (v := .ref 295) rfl ?_
  refine x_iload_n (M := M_X12_trim) dX12_trim_37 rfl ?_
  refine x_dup2 (M := M_X12_trim) dX12_trim_38 rfl rfl ?_
  refine x_iald (M := M_X12_trim) dX12_trim_39 o7658 (vp_inD (by decide +kernel)) ?_
  refine x_top (M := M_X12_trim) (y := (Int32.ofInt 1)) (by decide +kernel) ?_
  refine x_iconst (M := M_X12_trim) dX12_trim_40 ?_
  refine x_isub (M := M_X12_trim) dX12_trim_41 ?_
  refine x_norm (M := M_X12_trim) (st' := [.int (Int32.ofInt 0), .int (Int32.ofInt 0), .ref 295]) rfl (vi_cons (by decide +kernel : ((Int32.ofInt 1) - (Int32.ofInt 1)) = (Int32.ofInt 0)) rfl) rfl rfl rfl ?_
  refine y_iast (M := M_X12_trim) (k := 0) dX12_trim_42 o7658 (vp_inD (by decide +kernel)) (by decide +kernel) (fun h7660 w7661 f7662 => ?_)
  have w7663 : ob h7660 295 = some (.inl (0, 20, .inl (fun _ => 0))) := by rw [w7661, up_up (k := 0), up_z (k := 0)]
  refine x_goto (M := M_X12_trim) (tgt := 0) dX12_trim_43 (by decide) ?_
  refine x_aload_n (M := M_X12_trim) dX12_trim_0 rfl ?_
  have o7664 := (f7662 277 _ (by decide) o7657)
  refine x_getf (M := M_X12_trim) (ci := 15) (C := RX12) (T := TX12) (N := 135) (ty := tyX12) cl15 dX12_trim_1 o7664 37 (by decide) t_2428 (v := .ref 295) rfl ?_
  refine x_iload_n (M := M_X12_trim) dX12_trim_4 rfl ?_
  refine x_iald (M := M_X12_trim) dX12_trim_5 w7663 (vp_inD (by decide +kernel)) ?_
  refine x_top (M := M_X12_trim) (y := (Int32.ofInt 0)) (by decide +kernel) ?_
  refine x_if_le (M := M_X12_trim) (tgt := 46) dX12_trim_6 (by decide) (fun _ => ?_) (fun q => absurd q (by decide +kernel))
  refine x_aload_n (M := M_X12_trim) dX12_trim_46 rfl ?_
  refine x_getf (M := M_X12_trim) (ci := 15) (C := RX12) (T := TX12) (N := 135) (ty := tyX12) cl15 dX12_trim_47 o7664 37 (by decide) t_2428 (v := .ref 295) rfl ?_
  refine x_iload_n (M := M_X12_trim) dX12_trim_50 rfl ?_
  refine x_iald (M := M_X12_trim) dX12_trim_51 w7663 (vp_inD (by decide +kernel)) ?_
  refine x_top (M := M_X12_trim) (y := (Int32.ofInt 0)) (by decide +kernel) ?_
  refine x_if_ne (M := M_X12_trim) (tgt := 62) dX12_trim_52 (by decide) (fun q => absurd q (by decide +kernel)) (fun _ => ?_)
  refine x_aload_n (M := M_X12_trim) dX12_trim_55 rfl ?_
  refine x_getf (M := M_X12_trim) (ci := 15) (C := RX12) (T := TX12) (N := 135) (ty := tyX12) cl15 dX12_trim_56 o7664 38 (by decide) t_2429 (v := .ref 296) rfl ?_
  refine x_iload_n (M := M_X12_trim) dX12_trim_59 rfl ?_
  refine x_iconst (M := M_X12_trim) dX12_trim_60 ?_
  have o7666 := (f7662 296 _ (by decide) o7665)
  refine y_iast (M := M_X12_trim) (k := 0) dX12_trim_61 o7666 (vp_inD (by decide +kernel)) (by decide +kernel) (fun h7667 w7668 f7669 => ?_)
  have w7670 : ob h7667 296 = some (.inl (0, 20, .inl (fun _ => 0))) := by rw [w7668, up_z (k := 0)]
  have o7671 := (f7669 295 _ (by decide) w7663)
  exact x_vret (M := M_X12_trim) dX12_trim_62 rfl ⟨rfl, (fr_tr f7669 (by decide) (fr_tr f7662 (by decide) fr_rf)), ⟨o7671, w7670, trivial⟩⟩ (Nat.le_of_ble_eq_true rfl) (Nat.le_of_ble_eq_true rfl)
set_option maxRecDepth 10000 in
theorem q7682 {l : Launch} {E : EE} (hl : l.stackTraces = false) {h : HP} {dg : Int32} (o7622 : ob h 277 = some (.inr (15, ((RB dg).set 0 (.int (Int32.ofInt 0)))))) (o7623 : ob h 296 = some (.inl (0, 20, .inl (fun _ => 0)))) (o7644 : ob h 295 = some (.inl (0, 20, .inl (fun _ => 0)))) (o7645 : ob h 294 = some (.inl (1, 6000, .inr (.inl (fun _ => 0))))) : en_C l E M_X12_add 2 0 0 [.ref 277, .int (Int32.ofInt 0), .int (Int32.ofInt 18), .int (Int32.ofInt 19), .int (Int32.ofInt 1)] h (pF none [294, 295, 296] h (fun h' => ob h' 294 = some (.inl (1, 6000, .inr (.inl (fun _ => 0)))) ∧ ob h' 295 = some (.inl (0, 20, .inl (fun _ => 0))) ∧ ob h' 296 = some (.inl (0, 20, .inl (fun _ => 0))) ∧ True)) := by
  refine en_mk m_X12_add rfl hl (Nat.le_of_ble_eq_true rfl) ?_
  refine x_aload_n (M := M_X12_add) dX12_add_0 rfl ?_
  refine x_getf (M := M_X12_add) (ci := 15) (C := RX12) (T := TX12) (N := 135) (ty := tyX12) cl15 dX12_add_1 o7622 38 (by decide) t_2429 (v := .ref 296) rfl ?_
  refine x_iload_n (M := M_X12_add) dX12_add_4 rfl ?_
  refine x_iald (M := M_X12_add) dX12_add_5 o7623 (vp_inD (by decide +kernel)) ?_
  refine x_top (M := M_X12_add) (y := (Int32.ofInt 0)) (by decide +kernel) ?_
  refine x_istore (M := M_X12_add) dX12_add_6 (Nat.le_of_ble_eq_true rfl) rfl ?_
  refine x_iload (M := M_X12_add) dX12_add_8 rfl ?_
  refine x_if_eq (M := M_X12_add) (tgt := 23) dX12_add_10 (by decide) (fun q => absurd q (by decide +kernel)) (fun _ => ?_)
  refine x_aload_n (M := M_X12_add) dX12_add_13 rfl ?_
  refine x_getf (M := M_X12_add) (ci := 15) (C := RX12) (T := TX12) (N := 135) (ty := tyX12) cl15 dX12_add_14 o7622 38 (by decide) t_2429 (v := .ref 296) rfl ?_
  refine x_iload_n (M := M_X12_add) dX12_add_17 rfl ?_
  refine x_iald (M := M_X12_add) dX12_add_18 o7623 (vp_inD (by decide +kernel)) ?_
  refine x_top (M := M_X12_add) (y := (Int32.ofInt 0)) (by decide +kernel) ?_
  refine x_ineg (M := M_X12_add) dX12_add_19 ?_
  refine x_goto (M := M_X12_add) (tgt := 29) dX12_add_20 (by decide) ?_
  refine x_top (M := M_X12_add) (y := (Int32.ofInt 0)) (by decide +kernel) ?_
  refine x_istore (M := M_X12_add) dX12_add_29 (Nat.le_of_ble_eq_true rfl) rfl ?_
  refine x_iload (M := M_X12_add) dX12_add_31 rfl ?_
  refine x_if_eq (M := M_X12_add) (tgt := 48) dX12_add_33 (by decide) (fun _ => ?_) (fun q => absurd q (by decide +kernel))
  refine x_aload_n (M := M_X12_add) dX12_add_48 rfl ?_
  refine x_iload_n (M := M_X12_add) dX12_add_49 rfl ?_
  refine x_iload_n (M := M_X12_add) dX12_add_50 rfl ?_
  refine x_iload_n (M := M_X12_add) dX12_add_51 rfl ?_
  refine y_callVR (M := M_X12_add) (M' := M_X12_addSizes) rfl rfl dX12_add_52 m_X12_addSizes t_3178 t_3180 s_215 (q7643 hl o7622 o7644 o7645) rfl rfl o7622 rfl (Nat.le_of_ble_eq_true rfl) (Nat.le_of_ble_eq_true rfl) (Nat.le_of_ble_eq_true rfl) (Nat.le_of_ble_eq_true rfl) (fun h7646 f7647 w7648 => ?_)
  obtain ⟨o7649, o7650, -⟩ := w7648
  refine x_aload_n (M := M_X12_add) dX12_add_55 rfl ?_
  have o7651 := (f7647 277 _ (by decide) o7622)
  refine x_getf (M := M_X12_add) (ci := 15) (C := RX12) (T := TX12) (N := 135) (ty := tyX12) cl15 dX12_add_56 o7651 38 (by decide) t_2429 (v := .ref 296) rfl ?_
  refine x_iload_n (M := M_X12_add) dX12_add_59 rfl ?_
  refine x_iload (M := M_X12_add) dX12_add_60 rfl ?_
  refine x_if_ne (M := M_X12_add) (tgt := 70) dX12_add_62 (by decide) (fun q => absurd q (by decide +kernel)) (fun _ => ?_)
  refine x_iload (M := M_X12_add) dX12_add_65 rfl ?_
  refine x_goto (M := M_X12_add) (tgt := 72) dX12_add_67 (by decide) ?_
  have o7652 := (f7647 296 _ (by decide) o7623)
  refine y_iast (M := M_X12_add) (k := 0) dX12_add_72 o7652 (vp_inD (by decide +kernel)) (by decide +kernel) (fun h7653 w7654 f7655 => ?_)
  have w7656 : ob h7653 296 = some (.inl (0, 20, .inl (fun _ => 0))) := by rw [w7654, up_z (k := 0)]
  refine x_goto (M := M_X12_add) (tgt := 118) dX12_add_73 (by decide) ?_
  refine x_aload_n (M := M_X12_add) dX12_add_118 rfl ?_
  refine x_iload_n (M := M_X12_add) dX12_add_119 rfl ?_
  have o7673 := (f7655 277 _ (by decide) o7651)
  have o7674 := (f7655 295 _ (by decide) o7650)
  have o7675 := (f7655 294 _ (by decide) o7649)
  refine y_callVR (M := M_X12_add) (M' := M_X12_trim) rfl rfl dX12_add_120 m_X12_trim t_3170 t_3172 s_213 (q7672 hl o7673 o7674 o7675 w7656) rfl rfl o7673 rfl (Nat.le_of_ble_eq_true rfl) (Nat.le_of_ble_eq_true rfl) (Nat.le_of_ble_eq_true rfl) (Nat.le_of_ble_eq_true rfl) (fun h7676 f7677 w7678 => ?_)
  obtain ⟨o7679, o7680, -⟩ := w7678
  have o7681 := (f7677 294 _ (by decide) o7675)
  exact x_vret (M := M_X12_add) dX12_add_123 rfl ⟨rfl, (fr_tr f7677 (by decide) (fr_tr f7655 (by decide) (fr_tr f7647 (by decide) fr_rf))), ⟨o7681, o7679, o7680, trivial⟩⟩ (Nat.le_of_ble_eq_true rfl) (Nat.le_of_ble_eq_true rfl)
set_option maxRecDepth 10000 in
theorem q7690 {l : Launch} {E : EE} (hl : l.stackTraces = false) {h : HP} {a0 : Int32} {a1 : Int32} {dg : Int32} (c0 : ¬ (a0.toInt < 0)) (c1 : a0.toInt < 32) (c2 : ¬ (a1.toInt < 0)) (c3 : a1.toInt < 32) (o7471 : ob h 277 = some (.inr (15, ((RB dg).set 0 (.int (Int32.ofInt 0)))))) (o7472 : ob h 297 = some (.inl (1, 32, .inr (.inl (fun _ => 0))))) (o7539 : ob h 294 = some (.inl (1, 6000, .inr (.inl (fun _ => 0))))) (o7540 : ob h 295 = some (.inl (0, 20, .inl (fun _ => 0)))) (o7541 : ob h 296 = some (.inl (0, 20, .inl (fun _ => 0)))) : en_C l E M_X12_between 3 0 0 [.ref 277, .int (Int32.ofInt 0), .int (Int32.ofInt 1), .int a1, .int a0] h (pF none [294, 295, 296] h (fun h' => ob h' 294 = some (.inl (1, 6000, .inr (.inl (fun _ => 0)))) ∧ ob h' 295 = some (.inl (0, 20, .inl (fun _ => 0))) ∧ ob h' 296 = some (.inl (0, 20, .inl (fun _ => 0))) ∧ True)) := by
  refine en_mk m_X12_between rfl hl (Nat.le_of_ble_eq_true rfl) ?_
  refine x_aload_n (M := M_X12_between) dX12_between_0 rfl ?_
  refine x_bipush (M := M_X12_between) dX12_between_1 ?_
  refine x_iload_n (M := M_X12_between) dX12_between_3 rfl ?_
  refine x_if_eq (M := M_X12_between) (tgt := 16) dX12_between_4 (by decide) (fun q => absurd q (by decide +kernel)) (fun _ => ?_)
  refine x_aload_n (M := M_X12_between) dX12_between_7 rfl ?_
  refine x_getf (M := M_X12_between) (ci := 15) (C := RX12) (T := TX12) (N := 135) (ty := tyX12) cl15 dX12_between_8 o7471 39 (by decide) t_2430 (v := .ref 297) rfl ?_
  refine x_iload_n (M := M_X12_between) dX12_between_11 rfl ?_
  refine x_lald (M := M_X12_between) dX12_between_12 o7472 (vp_in_s (by omega) (by omega)) ?_
  refine x_topl (M := M_X12_between) (y := (Int64.ofInt 0)) rfl ?_
  refine x_goto (M := M_X12_between) (tgt := 22) dX12_between_13 (by decide) ?_
  refine x_norm (M := M_X12_between) (st' := [.long (Int64.ofInt 0), .int (Int32.ofInt 18), .ref 277]) rfl (v_cons (vi_cons (by decide +kernel : ((Int8.ofInt 18).toInt32) = (Int32.ofInt 18)) rfl)) rfl rfl rfl ?_
  refine y_callVR (M := M_X12_between) (M' := M_X12_load) rfl rfl dX12_between_22 m_X12_load t_3165 t_3167 s_212 (q7538 hl o7471 o7539 o7540 o7541) rfl rfl o7471 rfl (Nat.le_of_ble_eq_true rfl) (Nat.le_of_ble_eq_true rfl) (Nat.le_of_ble_eq_true rfl) (Nat.le_of_ble_eq_true rfl) (fun h7542 f7543 w7544 => ?_)
  obtain ⟨o7545, o7546, o7547, -⟩ := w7544
  refine x_aload_n (M := M_X12_between) dX12_between_25 rfl ?_
  refine x_bipush (M := M_X12_between) dX12_between_26 ?_
  refine x_iload_n (M := M_X12_between) dX12_between_28 rfl ?_
  refine x_if_eq (M := M_X12_between) (tgt := 42) dX12_between_29 (by decide) (fun q => absurd q (by decide +kernel)) (fun _ => ?_)
  refine x_aload_n (M := M_X12_between) dX12_between_32 rfl ?_
  have o7548 := (f7543 277 _ (by decide) o7471)
  refine x_getf (M := M_X12_between) (ci := 15) (C := RX12) (T := TX12) (N := 135) (ty := tyX12) cl15 dX12_between_33 o7548 39 (by decide) t_2430 (v := .ref 297) rfl ?_
  refine x_iload (M := M_X12_between) dX12_between_36 rfl ?_
  have o7549 := (f7543 297 _ (by decide) o7472)
  refine x_lald (M := M_X12_between) dX12_between_38 o7549 (vp_in_s (by omega) (by omega)) ?_
  refine x_topl (M := M_X12_between) (y := (Int64.ofInt 0)) rfl ?_
  refine x_goto (M := M_X12_between) (tgt := 49) dX12_between_39 (by decide) ?_
  refine x_norm (M := M_X12_between) (st' := [.long (Int64.ofInt 0), .int (Int32.ofInt 19), .ref 277]) rfl (v_cons (vi_cons (by decide +kernel : ((Int8.ofInt 19).toInt32) = (Int32.ofInt 19)) rfl)) rfl rfl rfl ?_
  refine y_callVR (M := M_X12_between) (M' := M_X12_load) rfl rfl dX12_between_49 m_X12_load t_3165 t_3167 s_212 (q7615 hl o7548 o7545 o7546 o7547) rfl rfl o7548 rfl (Nat.le_of_ble_eq_true rfl) (Nat.le_of_ble_eq_true rfl) (Nat.le_of_ble_eq_true rfl) (Nat.le_of_ble_eq_true rfl) (fun h7616 f7617 w7618 => ?_)
  obtain ⟨o7619, o7620, o7621, -⟩ := w7618
  refine x_aload_n (M := M_X12_between) dX12_between_52 rfl ?_
  refine x_iload_n (M := M_X12_between) dX12_between_53 rfl ?_
  refine x_bipush (M := M_X12_between) dX12_between_54 ?_
  refine x_bipush (M := M_X12_between) dX12_between_56 ?_
  refine x_iconst (M := M_X12_between) dX12_between_58 ?_
  refine x_norm (M := M_X12_between) (st' := [.int (Int32.ofInt 1), .int (Int32.ofInt 19), .int (Int32.ofInt 18), .int (Int32.ofInt 0), .ref 277]) rfl (v_cons (vi_cons (by decide +kernel : ((Int8.ofInt 19).toInt32) = (Int32.ofInt 19)) (vi_cons (by decide +kernel : ((Int8.ofInt 18).toInt32) = (Int32.ofInt 18)) rfl))) rfl rfl rfl ?_
  have o7683 := (f7617 277 _ (by decide) o7548)
  refine y_callVR (M := M_X12_between) (M' := M_X12_add) rfl rfl dX12_between_59 m_X12_add t_3174 t_3176 s_214 (q7682 hl o7683 o7621 o7620 o7619) rfl rfl o7683 rfl (Nat.le_of_ble_eq_true rfl) (Nat.le_of_ble_eq_true rfl) (Nat.le_of_ble_eq_true rfl) (Nat.le_of_ble_eq_true rfl) (fun h7684 f7685 w7686 => ?_)
  obtain ⟨o7687, o7688, o7689, -⟩ := w7686
  exact x_vret (M := M_X12_between) dX12_between_62 rfl ⟨rfl, (fr_tr f7685 (by decide) (fr_tr f7617 (by decide) (fr_tr f7543 (by decide) fr_rf))), ⟨o7687, o7688, o7689, trivial⟩⟩ (Nat.le_of_ble_eq_true rfl) (Nat.le_of_ble_eq_true rfl)
set_option maxRecDepth 10000 in
theorem q7739 {l : Launch} {E : EE} (hl : l.stackTraces = false) {h : HP} {dg : Int32} (o7726 : ob h 277 = some (.inr (15, ((RB dg).set 0 (.int (Int32.ofInt 0)))))) (o7727 : ob h 295 = some (.inl (0, 20, .inl (fun _ => 0)))) (o7728 : ob h 294 = some (.inl (1, 6000, .inr (.inl (fun _ => 0))))) : en_C l E M_X12_addSizes 1 0 0 [.ref 277, .int (Int32.ofInt 1), .int (Int32.ofInt 18), .int (Int32.ofInt 19)] h (pF none [294, 295] h (fun h' => ob h' 294 = some (.inl (1, 6000, .inr (.inl (fun _ => 0)))) ∧ ob h' 295 = some (.inl (0, 20, .inl (upd (fun _ => 0) 1 (Int32.ofInt 1)))) ∧ True)) := by
  refine en_mk m_X12_addSizes rfl hl (Nat.le_of_ble_eq_true rfl) ?_
  refine x_aload_n (M := M_X12_addSizes) dX12_addSizes_0 rfl ?_
  refine x_getf (M := M_X12_addSizes) (ci := 15) (C := RX12) (T := TX12) (N := 135) (ty := tyX12) cl15 dX12_addSizes_1 o7726 37 (by decide) t_2428 (v := .ref 295) rfl ?_
  refine x_iload_n (M := M_X12_addSizes) dX12_addSizes_4 rfl ?_
  refine x_iald (M := M_X12_addSizes) dX12_addSizes_5 o7727 (vp_inD (by decide +kernel)) ?_
  refine x_top (M := M_X12_addSizes) (y := (Int32.ofInt 0)) (by decide +kernel) ?_
  refine x_aload_n (M := M_X12_addSizes) dX12_addSizes_6 rfl ?_
  refine x_getf (M := M_X12_addSizes) (ci := 15) (C := RX12) (T := TX12) (N := 135) (ty := tyX12) cl15 dX12_addSizes_7 o7726 37 (by decide) t_2428 (v := .ref 295) rfl ?_
  refine x_iload_n (M := M_X12_addSizes) dX12_addSizes_10 rfl ?_
  refine x_iald (M := M_X12_addSizes) dX12_addSizes_11 o7727 (vp_inD (by decide +kernel)) ?_
  refine x_top (M := M_X12_addSizes) (y := (Int32.ofInt 0)) (by decide +kernel) ?_
  refine x_icmp_le (M := M_X12_addSizes) (tgt := 24) dX12_addSizes_12 (by decide) (fun _ => ?_) (fun q => absurd q (by decide +kernel))
  refine x_aload_n (M := M_X12_addSizes) dX12_addSizes_24 rfl ?_
  refine x_getf (M := M_X12_addSizes) (ci := 15) (C := RX12) (T := TX12) (N := 135) (ty := tyX12) cl15 dX12_addSizes_25 o7726 37 (by decide) t_2428 (v := .ref 295) rfl ?_
  refine x_iload_n (M := M_X12_addSizes) dX12_addSizes_28 rfl ?_
  refine x_iald (M := M_X12_addSizes) dX12_addSizes_29 o7727 (vp_inD (by decide +kernel)) ?_
  refine x_top (M := M_X12_addSizes) (y := (Int32.ofInt 0)) (by decide +kernel) ?_
  refine x_iconst (M := M_X12_addSizes) dX12_addSizes_30 ?_
  refine x_iadd (M := M_X12_addSizes) dX12_addSizes_31 ?_
  refine x_top (M := M_X12_addSizes) (y := (Int32.ofInt 1)) (by decide +kernel) ?_
  refine x_istore (M := M_X12_addSizes) dX12_addSizes_32 (Nat.le_of_ble_eq_true rfl) rfl ?_
  refine x_lconst (M := M_X12_addSizes) dX12_addSizes_34 ?_
  refine x_topl (M := M_X12_addSizes) (y := (Int64.ofInt 0)) (by decide +kernel) ?_
  refine x_lstore (M := M_X12_addSizes) dX12_addSizes_35 (Nat.le_of_ble_eq_true rfl) rfl ?_
  refine x_iconst (M := M_X12_addSizes) dX12_addSizes_37 ?_
  refine x_istore (M := M_X12_addSizes) dX12_addSizes_38 (Nat.le_of_ble_eq_true rfl) rfl ?_
  refine x_iload (M := M_X12_addSizes) dX12_addSizes_40 rfl ?_
  refine x_iload (M := M_X12_addSizes) dX12_addSizes_42 rfl ?_
  refine x_icmp_ge (M := M_X12_addSizes) (tgt := 99) dX12_addSizes_44 (by decide) (fun q => absurd q (by decide +kernel)) (fun _ => ?_)
  refine x_lload (M := M_X12_addSizes) dX12_addSizes_47 rfl ?_
  refine x_aload_n (M := M_X12_addSizes) dX12_addSizes_49 rfl ?_
  refine x_iload_n (M := M_X12_addSizes) dX12_addSizes_50 rfl ?_
  refine x_iload (M := M_X12_addSizes) dX12_addSizes_51 rfl ?_
  refine x_callVR (M := M_X12_addSizes) (M' := M_X12_limb) rfl rfl dX12_addSizes_53 m_X12_limb t_3182 t_3184 s_216 (q7628 hl o7726 o7727) rfl rfl o7726 rfl (Nat.le_of_ble_eq_true rfl) (Nat.le_of_ble_eq_true rfl) (Nat.le_of_ble_eq_true rfl) (Nat.le_of_ble_eq_true rfl) ?_
  refine x_aload_n (M := M_X12_addSizes) dX12_addSizes_56 rfl ?_
  refine x_iload_n (M := M_X12_addSizes) dX12_addSizes_57 rfl ?_
  refine x_iload (M := M_X12_addSizes) dX12_addSizes_58 rfl ?_
  refine x_callVR (M := M_X12_addSizes) (M' := M_X12_limb) rfl rfl dX12_addSizes_60 m_X12_limb t_3182 t_3184 s_216 (q7631 hl o7726 o7727) rfl rfl o7726 rfl (Nat.le_of_ble_eq_true rfl) (Nat.le_of_ble_eq_true rfl) (Nat.le_of_ble_eq_true rfl) (Nat.le_of_ble_eq_true rfl) ?_
  refine x_ladd (M := M_X12_addSizes) dX12_addSizes_63 ?_
  refine x_ladd (M := M_X12_addSizes) dX12_addSizes_64 ?_
  refine x_topl (M := M_X12_addSizes) (y := (Int64.ofInt 0)) (by decide +kernel) ?_
  refine x_lstore (M := M_X12_addSizes) dX12_addSizes_65 (Nat.le_of_ble_eq_true rfl) rfl ?_
  refine x_aload_n (M := M_X12_addSizes) dX12_addSizes_67 rfl ?_
  refine x_getf (M := M_X12_addSizes) (ci := 15) (C := RX12) (T := TX12) (N := 135) (ty := tyX12) cl15 dX12_addSizes_68 o7726 36 (by decide) t_2427 (v := .ref 294) rfl ?_
  refine x_sipush (M := M_X12_addSizes) dX12_addSizes_71 ?_
  refine x_iload_n (M := M_X12_addSizes) dX12_addSizes_74 rfl ?_
  refine x_imul (M := M_X12_addSizes) dX12_addSizes_75 ?_
  refine x_iload (M := M_X12_addSizes) dX12_addSizes_76 rfl ?_
  refine x_iadd (M := M_X12_addSizes) dX12_addSizes_78 ?_
  refine x_lload (M := M_X12_addSizes) dX12_addSizes_79 rfl ?_
  refine x_ldc2 (M := M_X12_addSizes) dX12_addSizes_81 t_3169 ?_
  refine x_land (M := M_X12_addSizes) dX12_addSizes_84 ?_
  refine x_norm (M := M_X12_addSizes) (st' := [.long (Int64.ofInt 0), .int (Int32.ofInt 300), .ref 294]) rfl (vj_cons (by decide +kernel : ((Int64.ofInt 0) &&& (4294967295 : Int64)) = (Int64.ofInt 0)) (vi_cons (by decide +kernel : ((((Int16.ofInt 300).toInt32) * (Int32.ofInt 1)) + (Int32.ofInt 0)) = (Int32.ofInt 300)) rfl)) rfl rfl rfl ?_
  refine y_last (M := M_X12_addSizes) (k := 300) dX12_addSizes_85 o7728 (vp_inD (by decide +kernel)) (by decide +kernel) (fun h7729 w7730 f7731 => ?_)
  have w7732 : ob h7729 294 = some (.inl (1, 6000, .inr (.inl (fun _ => 0)))) := by rw [w7730, uq_z (k := 300)]
  refine x_lload (M := M_X12_addSizes) dX12_addSizes_86 rfl ?_
  refine x_bipush (M := M_X12_addSizes) dX12_addSizes_88 ?_
  refine x_lushr (M := M_X12_addSizes) dX12_addSizes_90 ?_
  refine x_topl (M := M_X12_addSizes) (y := (Int64.ofInt 0)) (by decide +kernel) ?_
  refine x_lstore (M := M_X12_addSizes) dX12_addSizes_91 (Nat.le_of_ble_eq_true rfl) rfl ?_
  refine x_lvs (M := M_X12_addSizes) (lv' := [some (.ref 277), some (.int (Int32.ofInt 1)), some (.int (Int32.ofInt 18)), some (.int (Int32.ofInt 19)), some (.int (Int32.ofInt 1)), some (.long (Int64.ofInt 0)), none, some (.int (Int32.ofInt 0))]) rfl ?_
  refine x_iinc (M := M_X12_addSizes) dX12_addSizes_93 rfl (Nat.le_of_ble_eq_true rfl) rfl ?_
  refine x_lvs (M := M_X12_addSizes) (lv' := [some (.ref 277), some (.int (Int32.ofInt 1)), some (.int (Int32.ofInt 18)), some (.int (Int32.ofInt 19)), some (.int (Int32.ofInt 1)), some (.long (Int64.ofInt 0)), none, some (.int (Int32.ofInt 1))]) (by rw [(by decide +kernel : (Int32.ofInt 0) + Int32.ofInt 1 = (Int32.ofInt 1))] <;> rfl) ?_
  refine x_goto (M := M_X12_addSizes) (tgt := 40) dX12_addSizes_96 (by decide) ?_
  refine x_iload (M := M_X12_addSizes) dX12_addSizes_40 rfl ?_
  refine x_iload (M := M_X12_addSizes) dX12_addSizes_42 rfl ?_
  refine x_icmp_ge (M := M_X12_addSizes) (tgt := 99) dX12_addSizes_44 (by decide) (fun _ => ?_) (fun q => absurd q (by decide +kernel))
  refine x_aload_n (M := M_X12_addSizes) dX12_addSizes_99 rfl ?_
  have o7733 := (f7731 277 _ (by decide) o7726)
  refine x_getf (M := M_X12_addSizes) (ci := 15) (C := RX12) (T := TX12) (N := 135) (ty := tyX12) cl15 dX12_addSizes_100 o7733 37 (by decide) t_2428 (v := .ref 295) rfl ?_
  refine x_iload_n (M := M_X12_addSizes) dX12_addSizes_103 rfl ?_
  refine x_iload (M := M_X12_addSizes) dX12_addSizes_104 rfl ?_
  have o7734 := (f7731 295 _ (by decide) o7727)
  refine y_iast (M := M_X12_addSizes) (k := 1) dX12_addSizes_106 o7734 (vp_inD (by decide +kernel)) (by decide +kernel) (fun h7735 w7736 f7737 => ?_)
  have o7738 := (f7737 294 _ (by decide) w7732)
  exact x_vret (M := M_X12_addSizes) dX12_addSizes_107 rfl ⟨rfl, (fr_tr f7737 (by decide) (fr_tr f7731 (by decide) fr_rf)), ⟨o7738, w7736, trivial⟩⟩ (Nat.le_of_ble_eq_true rfl) (Nat.le_of_ble_eq_true rfl)
set_option maxRecDepth 10000 in
theorem q7768 {l : Launch} {E : EE} (hl : l.stackTraces = false) {h : HP} {dg : Int32} (o7753 : ob h 277 = some (.inr (15, ((RB dg).set 0 (.int (Int32.ofInt 0)))))) (o7754 : ob h 295 = some (.inl (0, 20, .inl (upd (fun _ => 0) 1 (Int32.ofInt 1))))) (o7755 : ob h 294 = some (.inl (1, 6000, .inr (.inl (fun _ => 0))))) (o7761 : ob h 296 = some (.inl (0, 20, .inl (fun _ => 0)))) : en_C l E M_X12_trim 0 0 0 [.ref 277, .int (Int32.ofInt 1)] h (pF none [295, 296] h (fun h' => ob h' 295 = some (.inl (0, 20, .inl (fun _ => 0))) ∧ ob h' 296 = some (.inl (0, 20, .inl (fun _ => 0))) ∧ True)) := by
  refine en_mk m_X12_trim rfl hl (Nat.le_of_ble_eq_true rfl) ?_
  refine x_aload_n (M := M_X12_trim) dX12_trim_0 rfl ?_
  refine x_getf (M := M_X12_trim) (ci := 15) (C := RX12) (T := TX12) (N := 135) (ty := tyX12) cl15 dX12_trim_1 o7753 37 (by decide) t_2428 (v := .ref 295) rfl ?_
  refine x_iload_n (M := M_X12_trim) dX12_trim_4 rfl ?_
  refine x_iald (M := M_X12_trim) dX12_trim_5 o7754 (vp_inD (by decide +kernel)) ?_
  refine x_top (M := M_X12_trim) (y := (Int32.ofInt 1)) (by decide +kernel) ?_
  refine x_if_le (M := M_X12_trim) (tgt := 46) dX12_trim_6 (by decide) (fun q => absurd q (by decide +kernel)) (fun _ => ?_)
  refine x_aload_n (M := M_X12_trim) dX12_trim_9 rfl ?_
  refine x_getf (M := M_X12_trim) (ci := 15) (C := RX12) (T := TX12) (N := 135) (ty := tyX12) cl15 dX12_trim_10 o7753 36 (by decide) t_2427 (v := .ref 294) rfl ?_
  refine x_sipush (M := M_X12_trim) dX12_trim_13 ?_
  refine x_iload_n (M := M_X12_trim) dX12_trim_16 rfl ?_
  refine x_imul (M := M_X12_trim) dX12_trim_17 ?_
  refine x_aload_n (M := M_X12_trim) dX12_trim_18 rfl ?_
  refine x_getf (M := M_X12_trim) (ci := 15) (C := RX12) (T := TX12) (N := 135) (ty := tyX12) cl15 dX12_trim_19 o7753 37 (by decide) t_2428 (v := .ref 295) rfl ?_
  refine x_iload_n (M := M_X12_trim) dX12_trim_22 rfl ?_
  refine x_iald (M := M_X12_trim) dX12_trim_23 o7754 (vp_inD (by decide +kernel)) ?_
  refine x_top (M := M_X12_trim) (y := (Int32.ofInt 1)) (by decide +kernel) ?_
  refine x_iadd (M := M_X12_trim) dX12_trim_24 ?_
  refine x_iconst (M := M_X12_trim) dX12_trim_25 ?_
  refine x_isub (M := M_X12_trim) dX12_trim_26 ?_
  refine x_lald (M := M_X12_trim) dX12_trim_27 o7755 (vp_inD (by decide +kernel)) ?_
  refine x_topl (M := M_X12_trim) (y := (Int64.ofInt 0)) (by decide +kernel) ?_
  refine x_lconst (M := M_X12_trim) dX12_trim_28 ?_
  refine x_lcmp (M := M_X12_trim) dX12_trim_29 ?_
  refine x_if_ne (M := M_X12_trim) (tgt := 46) dX12_trim_30 (by decide) (fun q => absurd q (by decide +kernel)) (fun _ => ?_)
  refine x_aload_n (M := M_X12_trim) dX12_trim_33 rfl ?_
  refine x_getf (M := M_X12_trim) (ci := 15) (C := RX12) (T := TX12) (N := 135) (ty := tyX12) cl15 dX12_trim_34 o7753 37 (by decide) t_2428 (v := .ref 295) rfl ?_
  refine x_iload_n (M := M_X12_trim) dX12_trim_37 rfl ?_
  refine x_dup2 (M := M_X12_trim) dX12_trim_38 rfl rfl ?_
  refine x_iald (M := M_X12_trim) dX12_trim_39 o7754 (vp_inD (by decide +kernel)) ?_
  refine x_top (M := M_X12_trim) (y := (Int32.ofInt 1)) (by decide +kernel) ?_
  refine x_iconst (M := M_X12_trim) dX12_trim_40 ?_
  refine x_isub (M := M_X12_trim) dX12_trim_41 ?_
  refine x_norm (M := M_X12_trim) (st' := [.int (Int32.ofInt 0), .int (Int32.ofInt 1), .ref 295]) rfl (vi_cons (by decide +kernel : ((Int32.ofInt 1) - (Int32.ofInt 1)) = (Int32.ofInt 0)) rfl) rfl rfl rfl ?_
  refine y_iast (M := M_X12_trim) (k := 1) dX12_trim_42 o7754 (vp_inD (by decide +kernel)) (by decide +kernel) (fun h7756 w7757 f7758 => ?_)
  have w7759 : ob h7756 295 = some (.inl (0, 20, .inl (fun _ => 0))) := by rw [w7757, up_up (k := 1), up_z (k := 1)]
  refine x_goto (M := M_X12_trim) (tgt := 0) dX12_trim_43 (by decide) ?_
  refine x_aload_n (M := M_X12_trim) dX12_trim_0 rfl ?_
  have o7760 := (f7758 277 _ (by decide) o7753)
  refine x_getf (M := M_X12_trim) (ci := 15) (C := RX12) (T := TX12) (N := 135) (ty := tyX12) cl15 dX12_trim_1 o7760 37 (by decide) t_2428 (v := .ref 295) rfl ?_
  refine x_iload_n (M := M_X12_trim) dX12_trim_4 rfl ?_
  refine x_iald (M := M_X12_trim) dX12_trim_5 w7759 (vp_inD (by decide +kernel)) ?_
  refine x_top (M := M_X12_trim) (y := (Int32.ofInt 0)) (by decide +kernel) ?_
  refine x_if_le (M := M_X12_trim) (tgt := 46) dX12_trim_6 (by decide) (fun _ => ?_) (fun q => absurd q (by decide +kernel))
  refine x_aload_n (M := M_X12_trim) dX12_trim_46 rfl ?_
  refine x_getf (M := M_X12_trim) (ci := 15) (C := RX12) (T := TX12) (N := 135) (ty := tyX12) cl15 dX12_trim_47 o7760 37 (by decide) t_2428 (v := .ref 295) rfl ?_
  refine x_iload_n (M := M_X12_trim) dX12_trim_50 rfl ?_
  refine x_iald (M := M_X12_trim) dX12_trim_51 w7759 (vp_inD (by decide +kernel)) ?_
  refine x_top (M := M_X12_trim) (y := (Int32.ofInt 0)) (by decide +kernel) ?_
  refine x_if_ne (M := M_X12_trim) (tgt := 62) dX12_trim_52 (by decide) (fun q => absurd q (by decide +kernel)) (fun _ => ?_)
  refine x_aload_n (M := M_X12_trim) dX12_trim_55 rfl ?_
  refine x_getf (M := M_X12_trim) (ci := 15) (C := RX12) (T := TX12) (N := 135) (ty := tyX12) cl15 dX12_trim_56 o7760 38 (by decide) t_2429 (v := .ref 296) rfl ?_
  refine x_iload_n (M := M_X12_trim) dX12_trim_59 rfl ?_
  refine x_iconst (M := M_X12_trim) dX12_trim_60 ?_
  have o7762 := (f7758 296 _ (by decide) o7761)
  refine y_iast (M := M_X12_trim) (k := 1) dX12_trim_61 o7762 (vp_inD (by decide +kernel)) (by decide +kernel) (fun h7763 w7764 f7765 => ?_)
  have w7766 : ob h7763 296 = some (.inl (0, 20, .inl (fun _ => 0))) := by rw [w7764, up_z (k := 1)]
  have o7767 := (f7765 295 _ (by decide) w7759)
  exact x_vret (M := M_X12_trim) dX12_trim_62 rfl ⟨rfl, (fr_tr f7765 (by decide) (fr_tr f7758 (by decide) fr_rf)), ⟨o7767, w7766, trivial⟩⟩ (Nat.le_of_ble_eq_true rfl) (Nat.le_of_ble_eq_true rfl)
set_option maxRecDepth 10000 in
theorem q7778 {l : Launch} {E : EE} (hl : l.stackTraces = false) {h : HP} {dg : Int32} (o7724 : ob h 277 = some (.inr (15, ((RB dg).set 0 (.int (Int32.ofInt 0)))))) (o7725 : ob h 296 = some (.inl (0, 20, .inl (fun _ => 0)))) (o7740 : ob h 295 = some (.inl (0, 20, .inl (fun _ => 0)))) (o7741 : ob h 294 = some (.inl (1, 6000, .inr (.inl (fun _ => 0))))) : en_C l E M_X12_add 2 0 0 [.ref 277, .int (Int32.ofInt 1), .int (Int32.ofInt 18), .int (Int32.ofInt 19), .int (Int32.ofInt 1)] h (pF none [294, 295, 296] h (fun h' => ob h' 294 = some (.inl (1, 6000, .inr (.inl (fun _ => 0)))) ∧ ob h' 295 = some (.inl (0, 20, .inl (fun _ => 0))) ∧ ob h' 296 = some (.inl (0, 20, .inl (fun _ => 0))) ∧ True)) := by
  refine en_mk m_X12_add rfl hl (Nat.le_of_ble_eq_true rfl) ?_
  refine x_aload_n (M := M_X12_add) dX12_add_0 rfl ?_
  refine x_getf (M := M_X12_add) (ci := 15) (C := RX12) (T := TX12) (N := 135) (ty := tyX12) cl15 dX12_add_1 o7724 38 (by decide) t_2429 (v := .ref 296) rfl ?_
  refine x_iload_n (M := M_X12_add) dX12_add_4 rfl ?_
  refine x_iald (M := M_X12_add) dX12_add_5 o7725 (vp_inD (by decide +kernel)) ?_
  refine x_top (M := M_X12_add) (y := (Int32.ofInt 0)) (by decide +kernel) ?_
  refine x_istore (M := M_X12_add) dX12_add_6 (Nat.le_of_ble_eq_true rfl) rfl ?_
  refine x_iload (M := M_X12_add) dX12_add_8 rfl ?_
  refine x_if_eq (M := M_X12_add) (tgt := 23) dX12_add_10 (by decide) (fun q => absurd q (by decide +kernel)) (fun _ => ?_)
  refine x_aload_n (M := M_X12_add) dX12_add_13 rfl ?_
  refine x_getf (M := M_X12_add) (ci := 15) (C := RX12) (T := TX12) (N := 135) (ty := tyX12) cl15 dX12_add_14 o7724 38 (by decide) t_2429 (v := .ref 296) rfl ?_
  refine x_iload_n (M := M_X12_add) dX12_add_17 rfl ?_
  refine x_iald (M := M_X12_add) dX12_add_18 o7725 (vp_inD (by decide +kernel)) ?_
  refine x_top (M := M_X12_add) (y := (Int32.ofInt 0)) (by decide +kernel) ?_
  refine x_ineg (M := M_X12_add) dX12_add_19 ?_
  refine x_goto (M := M_X12_add) (tgt := 29) dX12_add_20 (by decide) ?_
  refine x_top (M := M_X12_add) (y := (Int32.ofInt 0)) (by decide +kernel) ?_
  refine x_istore (M := M_X12_add) dX12_add_29 (Nat.le_of_ble_eq_true rfl) rfl ?_
  refine x_iload (M := M_X12_add) dX12_add_31 rfl ?_
  refine x_if_eq (M := M_X12_add) (tgt := 48) dX12_add_33 (by decide) (fun _ => ?_) (fun q => absurd q (by decide +kernel))
  refine x_aload_n (M := M_X12_add) dX12_add_48 rfl ?_
  refine x_iload_n (M := M_X12_add) dX12_add_49 rfl ?_
  refine x_iload_n (M := M_X12_add) dX12_add_50 rfl ?_
  refine x_iload_n (M := M_X12_add) dX12_add_51 rfl ?_
  refine y_callVR (M := M_X12_add) (M' := M_X12_addSizes) rfl rfl dX12_add_52 m_X12_addSizes t_3178 t_3180 s_215 (q7739 hl o7724 o7740 o7741) rfl rfl o7724 rfl (Nat.le_of_ble_eq_true rfl) (Nat.le_of_ble_eq_true rfl) (Nat.le_of_ble_eq_true rfl) (Nat.le_of_ble_eq_true rfl) (fun h7742 f7743 w7744 => ?_)
  obtain ⟨o7745, o7746, -⟩ := w7744
  refine x_aload_n (M := M_X12_add) dX12_add_55 rfl ?_
  have o7747 := (f7743 277 _ (by decide) o7724)
  refine x_getf (M := M_X12_add) (ci := 15) (C := RX12) (T := TX12) (N := 135) (ty := tyX12) cl15 dX12_add_56 o7747 38 (by decide) t_2429 (v := .ref 296) rfl ?_
  refine x_iload_n (M := M_X12_add) dX12_add_59 rfl ?_
  refine x_iload (M := M_X12_add) dX12_add_60 rfl ?_
  refine x_if_ne (M := M_X12_add) (tgt := 70) dX12_add_62 (by decide) (fun q => absurd q (by decide +kernel)) (fun _ => ?_)
  refine x_iload (M := M_X12_add) dX12_add_65 rfl ?_
  refine x_goto (M := M_X12_add) (tgt := 72) dX12_add_67 (by decide) ?_
  have o7748 := (f7743 296 _ (by decide) o7725)
  refine y_iast (M := M_X12_add) (k := 1) dX12_add_72 o7748 (vp_inD (by decide +kernel)) (by decide +kernel) (fun h7749 w7750 f7751 => ?_)
  have w7752 : ob h7749 296 = some (.inl (0, 20, .inl (fun _ => 0))) := by rw [w7750, up_z (k := 1)]
  refine x_goto (M := M_X12_add) (tgt := 118) dX12_add_73 (by decide) ?_
  refine x_aload_n (M := M_X12_add) dX12_add_118 rfl ?_
  refine x_iload_n (M := M_X12_add) dX12_add_119 rfl ?_
  have o7769 := (f7751 277 _ (by decide) o7747)
  have o7770 := (f7751 295 _ (by decide) o7746)
  have o7771 := (f7751 294 _ (by decide) o7745)
  refine y_callVR (M := M_X12_add) (M' := M_X12_trim) rfl rfl dX12_add_120 m_X12_trim t_3170 t_3172 s_213 (q7768 hl o7769 o7770 o7771 w7752) rfl rfl o7769 rfl (Nat.le_of_ble_eq_true rfl) (Nat.le_of_ble_eq_true rfl) (Nat.le_of_ble_eq_true rfl) (Nat.le_of_ble_eq_true rfl) (fun h7772 f7773 w7774 => ?_)
  obtain ⟨o7775, o7776, -⟩ := w7774
  have o7777 := (f7773 294 _ (by decide) o7771)
  exact x_vret (M := M_X12_add) dX12_add_123 rfl ⟨rfl, (fr_tr f7773 (by decide) (fr_tr f7751 (by decide) (fr_tr f7743 (by decide) fr_rf))), ⟨o7777, o7775, o7776, trivial⟩⟩ (Nat.le_of_ble_eq_true rfl) (Nat.le_of_ble_eq_true rfl)
set_option maxRecDepth 10000 in
theorem q7786 {l : Launch} {E : EE} (hl : l.stackTraces = false) {h : HP} {a0 : Int32} {a2 : Int32} {dg : Int32} (c0 : ¬ (a0.toInt < 0)) (c1 : a0.toInt < 32) (c2 : ¬ (a2.toInt < 0)) (c3 : a2.toInt < 32) (o7705 : ob h 277 = some (.inr (15, ((RB dg).set 0 (.int (Int32.ofInt 0)))))) (o7706 : ob h 298 = some (.inl (1, 32, .inr (.inl (fun _ => 0))))) (o7707 : ob h 294 = some (.inl (1, 6000, .inr (.inl (fun _ => 0))))) (o7708 : ob h 295 = some (.inl (0, 20, .inl (fun _ => 0)))) (o7709 : ob h 296 = some (.inl (0, 20, .inl (fun _ => 0)))) : en_C l E M_X12_between 3 0 0 [.ref 277, .int (Int32.ofInt 1), .int (Int32.ofInt 0), .int a2, .int a0] h (pF none [294, 295, 296] h (fun h' => ob h' 294 = some (.inl (1, 6000, .inr (.inl (fun _ => 0)))) ∧ ob h' 295 = some (.inl (0, 20, .inl (fun _ => 0))) ∧ ob h' 296 = some (.inl (0, 20, .inl (fun _ => 0))) ∧ True)) := by
  refine en_mk m_X12_between rfl hl (Nat.le_of_ble_eq_true rfl) ?_
  refine x_aload_n (M := M_X12_between) dX12_between_0 rfl ?_
  refine x_bipush (M := M_X12_between) dX12_between_1 ?_
  refine x_iload_n (M := M_X12_between) dX12_between_3 rfl ?_
  refine x_if_eq (M := M_X12_between) (tgt := 16) dX12_between_4 (by decide) (fun _ => ?_) (fun q => absurd q (by decide +kernel))
  refine x_aload_n (M := M_X12_between) dX12_between_16 rfl ?_
  refine x_getf (M := M_X12_between) (ci := 15) (C := RX12) (T := TX12) (N := 135) (ty := tyX12) cl15 dX12_between_17 o7705 40 (by decide) t_2431 (v := .ref 298) rfl ?_
  refine x_iload_n (M := M_X12_between) dX12_between_20 rfl ?_
  refine x_lald (M := M_X12_between) dX12_between_21 o7706 (vp_in_s (by omega) (by omega)) ?_
  refine x_topl (M := M_X12_between) (y := (Int64.ofInt 0)) rfl ?_
  refine x_norm (M := M_X12_between) (st' := [.long (Int64.ofInt 0), .int (Int32.ofInt 18), .ref 277]) rfl (v_cons (vi_cons (by decide +kernel : ((Int8.ofInt 18).toInt32) = (Int32.ofInt 18)) rfl)) rfl rfl rfl ?_
  refine y_callVR (M := M_X12_between) (M' := M_X12_load) rfl rfl dX12_between_22 m_X12_load t_3165 t_3167 s_212 (q7538 hl o7705 o7707 o7708 o7709) rfl rfl o7705 rfl (Nat.le_of_ble_eq_true rfl) (Nat.le_of_ble_eq_true rfl) (Nat.le_of_ble_eq_true rfl) (Nat.le_of_ble_eq_true rfl) (fun h7710 f7711 w7712 => ?_)
  obtain ⟨o7713, o7714, o7715, -⟩ := w7712
  refine x_aload_n (M := M_X12_between) dX12_between_25 rfl ?_
  refine x_bipush (M := M_X12_between) dX12_between_26 ?_
  refine x_iload_n (M := M_X12_between) dX12_between_28 rfl ?_
  refine x_if_eq (M := M_X12_between) (tgt := 42) dX12_between_29 (by decide) (fun _ => ?_) (fun q => absurd q (by decide +kernel))
  refine x_aload_n (M := M_X12_between) dX12_between_42 rfl ?_
  have o7716 := (f7711 277 _ (by decide) o7705)
  refine x_getf (M := M_X12_between) (ci := 15) (C := RX12) (T := TX12) (N := 135) (ty := tyX12) cl15 dX12_between_43 o7716 40 (by decide) t_2431 (v := .ref 298) rfl ?_
  refine x_iload (M := M_X12_between) dX12_between_46 rfl ?_
  have o7717 := (f7711 298 _ (by decide) o7706)
  refine x_lald (M := M_X12_between) dX12_between_48 o7717 (vp_in_s (by omega) (by omega)) ?_
  refine x_topl (M := M_X12_between) (y := (Int64.ofInt 0)) rfl ?_
  refine x_norm (M := M_X12_between) (st' := [.long (Int64.ofInt 0), .int (Int32.ofInt 19), .ref 277]) rfl (v_cons (vi_cons (by decide +kernel : ((Int8.ofInt 19).toInt32) = (Int32.ofInt 19)) rfl)) rfl rfl rfl ?_
  refine y_callVR (M := M_X12_between) (M' := M_X12_load) rfl rfl dX12_between_49 m_X12_load t_3165 t_3167 s_212 (q7615 hl o7716 o7713 o7714 o7715) rfl rfl o7716 rfl (Nat.le_of_ble_eq_true rfl) (Nat.le_of_ble_eq_true rfl) (Nat.le_of_ble_eq_true rfl) (Nat.le_of_ble_eq_true rfl) (fun h7718 f7719 w7720 => ?_)
  obtain ⟨o7721, o7722, o7723, -⟩ := w7720
  refine x_aload_n (M := M_X12_between) dX12_between_52 rfl ?_
  refine x_iload_n (M := M_X12_between) dX12_between_53 rfl ?_
  refine x_bipush (M := M_X12_between) dX12_between_54 ?_
  refine x_bipush (M := M_X12_between) dX12_between_56 ?_
  refine x_iconst (M := M_X12_between) dX12_between_58 ?_
  refine x_norm (M := M_X12_between) (st' := [.int (Int32.ofInt 1), .int (Int32.ofInt 19), .int (Int32.ofInt 18), .int (Int32.ofInt 1), .ref 277]) rfl (v_cons (vi_cons (by decide +kernel : ((Int8.ofInt 19).toInt32) = (Int32.ofInt 19)) (vi_cons (by decide +kernel : ((Int8.ofInt 18).toInt32) = (Int32.ofInt 18)) rfl))) rfl rfl rfl ?_
  have o7779 := (f7719 277 _ (by decide) o7716)
  refine y_callVR (M := M_X12_between) (M' := M_X12_add) rfl rfl dX12_between_59 m_X12_add t_3174 t_3176 s_214 (q7778 hl o7779 o7723 o7722 o7721) rfl rfl o7779 rfl (Nat.le_of_ble_eq_true rfl) (Nat.le_of_ble_eq_true rfl) (Nat.le_of_ble_eq_true rfl) (Nat.le_of_ble_eq_true rfl) (fun h7780 f7781 w7782 => ?_)
  obtain ⟨o7783, o7784, o7785, -⟩ := w7782
  exact x_vret (M := M_X12_between) dX12_between_62 rfl ⟨rfl, (fr_tr f7781 (by decide) (fr_tr f7719 (by decide) (fr_tr f7711 (by decide) fr_rf))), ⟨o7783, o7784, o7785, trivial⟩⟩ (Nat.le_of_ble_eq_true rfl) (Nat.le_of_ble_eq_true rfl)
set_option maxRecDepth 10000 in
theorem q7830 {l : Launch} {E : EE} (hl : l.stackTraces = false) {h : HP} {dg : Int32} (o7817 : ob h 277 = some (.inr (15, ((RB dg).set 0 (.int (Int32.ofInt 0)))))) (o7818 : ob h 295 = some (.inl (0, 20, .inl (fun _ => 0)))) (o7819 : ob h 294 = some (.inl (1, 6000, .inr (.inl (fun _ => 0))))) : en_C l E M_X12_addSizes 1 0 0 [.ref 277, .int (Int32.ofInt 2), .int (Int32.ofInt 18), .int (Int32.ofInt 19)] h (pF none [294, 295] h (fun h' => ob h' 294 = some (.inl (1, 6000, .inr (.inl (fun _ => 0)))) ∧ ob h' 295 = some (.inl (0, 20, .inl (upd (fun _ => 0) 2 (Int32.ofInt 1)))) ∧ True)) := by
  refine en_mk m_X12_addSizes rfl hl (Nat.le_of_ble_eq_true rfl) ?_
  refine x_aload_n (M := M_X12_addSizes) dX12_addSizes_0 rfl ?_
  refine x_getf (M := M_X12_addSizes) (ci := 15) (C := RX12) (T := TX12) (N := 135) (ty := tyX12) cl15 dX12_addSizes_1 o7817 37 (by decide) t_2428 (v := .ref 295) rfl ?_
  refine x_iload_n (M := M_X12_addSizes) dX12_addSizes_4 rfl ?_
  refine x_iald (M := M_X12_addSizes) dX12_addSizes_5 o7818 (vp_inD (by decide +kernel)) ?_
  refine x_top (M := M_X12_addSizes) (y := (Int32.ofInt 0)) (by decide +kernel) ?_
  refine x_aload_n (M := M_X12_addSizes) dX12_addSizes_6 rfl ?_
  refine x_getf (M := M_X12_addSizes) (ci := 15) (C := RX12) (T := TX12) (N := 135) (ty := tyX12) cl15 dX12_addSizes_7 o7817 37 (by decide) t_2428 (v := .ref 295) rfl ?_
  refine x_iload_n (M := M_X12_addSizes) dX12_addSizes_10 rfl ?_
  refine x_iald (M := M_X12_addSizes) dX12_addSizes_11 o7818 (vp_inD (by decide +kernel)) ?_
  refine x_top (M := M_X12_addSizes) (y := (Int32.ofInt 0)) (by decide +kernel) ?_
  refine x_icmp_le (M := M_X12_addSizes) (tgt := 24) dX12_addSizes_12 (by decide) (fun _ => ?_) (fun q => absurd q (by decide +kernel))
  refine x_aload_n (M := M_X12_addSizes) dX12_addSizes_24 rfl ?_
  refine x_getf (M := M_X12_addSizes) (ci := 15) (C := RX12) (T := TX12) (N := 135) (ty := tyX12) cl15 dX12_addSizes_25 o7817 37 (by decide) t_2428 (v := .ref 295) rfl ?_
  refine x_iload_n (M := M_X12_addSizes) dX12_addSizes_28 rfl ?_
  refine x_iald (M := M_X12_addSizes) dX12_addSizes_29 o7818 (vp_inD (by decide +kernel)) ?_
  refine x_top (M := M_X12_addSizes) (y := (Int32.ofInt 0)) (by decide +kernel) ?_
  refine x_iconst (M := M_X12_addSizes) dX12_addSizes_30 ?_
  refine x_iadd (M := M_X12_addSizes) dX12_addSizes_31 ?_
  refine x_top (M := M_X12_addSizes) (y := (Int32.ofInt 1)) (by decide +kernel) ?_
  refine x_istore (M := M_X12_addSizes) dX12_addSizes_32 (Nat.le_of_ble_eq_true rfl) rfl ?_
  refine x_lconst (M := M_X12_addSizes) dX12_addSizes_34 ?_
  refine x_topl (M := M_X12_addSizes) (y := (Int64.ofInt 0)) (by decide +kernel) ?_
  refine x_lstore (M := M_X12_addSizes) dX12_addSizes_35 (Nat.le_of_ble_eq_true rfl) rfl ?_
  refine x_iconst (M := M_X12_addSizes) dX12_addSizes_37 ?_
  refine x_istore (M := M_X12_addSizes) dX12_addSizes_38 (Nat.le_of_ble_eq_true rfl) rfl ?_
  refine x_iload (M := M_X12_addSizes) dX12_addSizes_40 rfl ?_
  refine x_iload (M := M_X12_addSizes) dX12_addSizes_42 rfl ?_
  refine x_icmp_ge (M := M_X12_addSizes) (tgt := 99) dX12_addSizes_44 (by decide) (fun q => absurd q (by decide +kernel)) (fun _ => ?_)
  refine x_lload (M := M_X12_addSizes) dX12_addSizes_47 rfl ?_
  refine x_aload_n (M := M_X12_addSizes) dX12_addSizes_49 rfl ?_
  refine x_iload_n (M := M_X12_addSizes) dX12_addSizes_50 rfl ?_
  refine x_iload (M := M_X12_addSizes) dX12_addSizes_51 rfl ?_
  refine x_callVR (M := M_X12_addSizes) (M' := M_X12_limb) rfl rfl dX12_addSizes_53 m_X12_limb t_3182 t_3184 s_216 (q7628 hl o7817 o7818) rfl rfl o7817 rfl (Nat.le_of_ble_eq_true rfl) (Nat.le_of_ble_eq_true rfl) (Nat.le_of_ble_eq_true rfl) (Nat.le_of_ble_eq_true rfl) ?_
  refine x_aload_n (M := M_X12_addSizes) dX12_addSizes_56 rfl ?_
  refine x_iload_n (M := M_X12_addSizes) dX12_addSizes_57 rfl ?_
  refine x_iload (M := M_X12_addSizes) dX12_addSizes_58 rfl ?_
  refine x_callVR (M := M_X12_addSizes) (M' := M_X12_limb) rfl rfl dX12_addSizes_60 m_X12_limb t_3182 t_3184 s_216 (q7631 hl o7817 o7818) rfl rfl o7817 rfl (Nat.le_of_ble_eq_true rfl) (Nat.le_of_ble_eq_true rfl) (Nat.le_of_ble_eq_true rfl) (Nat.le_of_ble_eq_true rfl) ?_
  refine x_ladd (M := M_X12_addSizes) dX12_addSizes_63 ?_
  refine x_ladd (M := M_X12_addSizes) dX12_addSizes_64 ?_
  refine x_topl (M := M_X12_addSizes) (y := (Int64.ofInt 0)) (by decide +kernel) ?_
  refine x_lstore (M := M_X12_addSizes) dX12_addSizes_65 (Nat.le_of_ble_eq_true rfl) rfl ?_
  refine x_aload_n (M := M_X12_addSizes) dX12_addSizes_67 rfl ?_
  refine x_getf (M := M_X12_addSizes) (ci := 15) (C := RX12) (T := TX12) (N := 135) (ty := tyX12) cl15 dX12_addSizes_68 o7817 36 (by decide) t_2427 (v := .ref 294) rfl ?_
  refine x_sipush (M := M_X12_addSizes) dX12_addSizes_71 ?_
  refine x_iload_n (M := M_X12_addSizes) dX12_addSizes_74 rfl ?_
  refine x_imul (M := M_X12_addSizes) dX12_addSizes_75 ?_
  refine x_iload (M := M_X12_addSizes) dX12_addSizes_76 rfl ?_
  refine x_iadd (M := M_X12_addSizes) dX12_addSizes_78 ?_
  refine x_lload (M := M_X12_addSizes) dX12_addSizes_79 rfl ?_
  refine x_ldc2 (M := M_X12_addSizes) dX12_addSizes_81 t_3169 ?_
  refine x_land (M := M_X12_addSizes) dX12_addSizes_84 ?_
  refine x_norm (M := M_X12_addSizes) (st' := [.long (Int64.ofInt 0), .int (Int32.ofInt 600), .ref 294]) rfl (vj_cons (by decide +kernel : ((Int64.ofInt 0) &&& (4294967295 : Int64)) = (Int64.ofInt 0)) (vi_cons (by decide +kernel : ((((Int16.ofInt 300).toInt32) * (Int32.ofInt 2)) + (Int32.ofInt 0)) = (Int32.ofInt 600)) rfl)) rfl rfl rfl ?_
  refine y_last (M := M_X12_addSizes) (k := 600) dX12_addSizes_85 o7819 (vp_inD (by decide +kernel)) (by decide +kernel) (fun h7820 w7821 f7822 => ?_)
  have w7823 : ob h7820 294 = some (.inl (1, 6000, .inr (.inl (fun _ => 0)))) := by rw [w7821, uq_z (k := 600)]
  refine x_lload (M := M_X12_addSizes) dX12_addSizes_86 rfl ?_
  refine x_bipush (M := M_X12_addSizes) dX12_addSizes_88 ?_
  refine x_lushr (M := M_X12_addSizes) dX12_addSizes_90 ?_
  refine x_topl (M := M_X12_addSizes) (y := (Int64.ofInt 0)) (by decide +kernel) ?_
  refine x_lstore (M := M_X12_addSizes) dX12_addSizes_91 (Nat.le_of_ble_eq_true rfl) rfl ?_
  refine x_lvs (M := M_X12_addSizes) (lv' := [some (.ref 277), some (.int (Int32.ofInt 2)), some (.int (Int32.ofInt 18)), some (.int (Int32.ofInt 19)), some (.int (Int32.ofInt 1)), some (.long (Int64.ofInt 0)), none, some (.int (Int32.ofInt 0))]) rfl ?_
  refine x_iinc (M := M_X12_addSizes) dX12_addSizes_93 rfl (Nat.le_of_ble_eq_true rfl) rfl ?_
  refine x_lvs (M := M_X12_addSizes) (lv' := [some (.ref 277), some (.int (Int32.ofInt 2)), some (.int (Int32.ofInt 18)), some (.int (Int32.ofInt 19)), some (.int (Int32.ofInt 1)), some (.long (Int64.ofInt 0)), none, some (.int (Int32.ofInt 1))]) (by rw [(by decide +kernel : (Int32.ofInt 0) + Int32.ofInt 1 = (Int32.ofInt 1))] <;> rfl) ?_
  refine x_goto (M := M_X12_addSizes) (tgt := 40) dX12_addSizes_96 (by decide) ?_
  refine x_iload (M := M_X12_addSizes) dX12_addSizes_40 rfl ?_
  refine x_iload (M := M_X12_addSizes) dX12_addSizes_42 rfl ?_
  refine x_icmp_ge (M := M_X12_addSizes) (tgt := 99) dX12_addSizes_44 (by decide) (fun _ => ?_) (fun q => absurd q (by decide +kernel))
  refine x_aload_n (M := M_X12_addSizes) dX12_addSizes_99 rfl ?_
  have o7824 := (f7822 277 _ (by decide) o7817)
  refine x_getf (M := M_X12_addSizes) (ci := 15) (C := RX12) (T := TX12) (N := 135) (ty := tyX12) cl15 dX12_addSizes_100 o7824 37 (by decide) t_2428 (v := .ref 295) rfl ?_
  refine x_iload_n (M := M_X12_addSizes) dX12_addSizes_103 rfl ?_
  refine x_iload (M := M_X12_addSizes) dX12_addSizes_104 rfl ?_
  have o7825 := (f7822 295 _ (by decide) o7818)
  refine y_iast (M := M_X12_addSizes) (k := 2) dX12_addSizes_106 o7825 (vp_inD (by decide +kernel)) (by decide +kernel) (fun h7826 w7827 f7828 => ?_)
  have o7829 := (f7828 294 _ (by decide) w7823)
  exact x_vret (M := M_X12_addSizes) dX12_addSizes_107 rfl ⟨rfl, (fr_tr f7828 (by decide) (fr_tr f7822 (by decide) fr_rf)), ⟨o7829, w7827, trivial⟩⟩ (Nat.le_of_ble_eq_true rfl) (Nat.le_of_ble_eq_true rfl)
set_option maxRecDepth 10000 in
theorem q7859 {l : Launch} {E : EE} (hl : l.stackTraces = false) {h : HP} {dg : Int32} (o7844 : ob h 277 = some (.inr (15, ((RB dg).set 0 (.int (Int32.ofInt 0)))))) (o7845 : ob h 295 = some (.inl (0, 20, .inl (upd (fun _ => 0) 2 (Int32.ofInt 1))))) (o7846 : ob h 294 = some (.inl (1, 6000, .inr (.inl (fun _ => 0))))) (o7852 : ob h 296 = some (.inl (0, 20, .inl (fun _ => 0)))) : en_C l E M_X12_trim 0 0 0 [.ref 277, .int (Int32.ofInt 2)] h (pF none [295, 296] h (fun h' => ob h' 295 = some (.inl (0, 20, .inl (fun _ => 0))) ∧ ob h' 296 = some (.inl (0, 20, .inl (fun _ => 0))) ∧ True)) := by
  refine en_mk m_X12_trim rfl hl (Nat.le_of_ble_eq_true rfl) ?_
  refine x_aload_n (M := M_X12_trim) dX12_trim_0 rfl ?_
  refine x_getf (M := M_X12_trim) (ci := 15) (C := RX12) (T := TX12) (N := 135) (ty := tyX12) cl15 dX12_trim_1 o7844 37 (by decide) t_2428 (v := .ref 295) rfl ?_
  refine x_iload_n (M := M_X12_trim) dX12_trim_4 rfl ?_
  refine x_iald (M := M_X12_trim) dX12_trim_5 o7845 (vp_inD (by decide +kernel)) ?_
  refine x_top (M := M_X12_trim) (y := (Int32.ofInt 1)) (by decide +kernel) ?_
  refine x_if_le (M := M_X12_trim) (tgt := 46) dX12_trim_6 (by decide) (fun q => absurd q (by decide +kernel)) (fun _ => ?_)
  refine x_aload_n (M := M_X12_trim) dX12_trim_9 rfl ?_
  refine x_getf (M := M_X12_trim) (ci := 15) (C := RX12) (T := TX12) (N := 135) (ty := tyX12) cl15 dX12_trim_10 o7844 36 (by decide) t_2427 (v := .ref 294) rfl ?_
  refine x_sipush (M := M_X12_trim) dX12_trim_13 ?_
  refine x_iload_n (M := M_X12_trim) dX12_trim_16 rfl ?_
  refine x_imul (M := M_X12_trim) dX12_trim_17 ?_
  refine x_aload_n (M := M_X12_trim) dX12_trim_18 rfl ?_
  refine x_getf (M := M_X12_trim) (ci := 15) (C := RX12) (T := TX12) (N := 135) (ty := tyX12) cl15 dX12_trim_19 o7844 37 (by decide) t_2428 (v := .ref 295) rfl ?_
  refine x_iload_n (M := M_X12_trim) dX12_trim_22 rfl ?_
  refine x_iald (M := M_X12_trim) dX12_trim_23 o7845 (vp_inD (by decide +kernel)) ?_
  refine x_top (M := M_X12_trim) (y := (Int32.ofInt 1)) (by decide +kernel) ?_
  refine x_iadd (M := M_X12_trim) dX12_trim_24 ?_
  refine x_iconst (M := M_X12_trim) dX12_trim_25 ?_
  refine x_isub (M := M_X12_trim) dX12_trim_26 ?_
  refine x_lald (M := M_X12_trim) dX12_trim_27 o7846 (vp_inD (by decide +kernel)) ?_
  refine x_topl (M := M_X12_trim) (y := (Int64.ofInt 0)) (by decide +kernel) ?_
  refine x_lconst (M := M_X12_trim) dX12_trim_28 ?_
  refine x_lcmp (M := M_X12_trim) dX12_trim_29 ?_
  refine x_if_ne (M := M_X12_trim) (tgt := 46) dX12_trim_30 (by decide) (fun q => absurd q (by decide +kernel)) (fun _ => ?_)
  refine x_aload_n (M := M_X12_trim) dX12_trim_33 rfl ?_
  refine x_getf (M := M_X12_trim) (ci := 15) (C := RX12) (T := TX12) (N := 135) (ty := tyX12) cl15 dX12_trim_34 o7844 37 (by decide) t_2428 (v := .ref 295) rfl ?_
  refine x_iload_n (M := M_X12_trim) dX12_trim_37 rfl ?_
  refine x_dup2 (M := M_X12_trim) dX12_trim_38 rfl rfl ?_
  refine x_iald (M := M_X12_trim) dX12_trim_39 o7845 (vp_inD (by decide +kernel)) ?_
  refine x_top (M := M_X12_trim) (y := (Int32.ofInt 1)) (by decide +kernel) ?_
  refine x_iconst (M := M_X12_trim) dX12_trim_40 ?_
  refine x_isub (M := M_X12_trim) dX12_trim_41 ?_
  refine x_norm (M := M_X12_trim) (st' := [.int (Int32.ofInt 0), .int (Int32.ofInt 2), .ref 295]) rfl (vi_cons (by decide +kernel : ((Int32.ofInt 1) - (Int32.ofInt 1)) = (Int32.ofInt 0)) rfl) rfl rfl rfl ?_
  refine y_iast (M := M_X12_trim) (k := 2) dX12_trim_42 o7845 (vp_inD (by decide +kernel)) (by decide +kernel) (fun h7847 w7848 f7849 => ?_)
  have w7850 : ob h7847 295 = some (.inl (0, 20, .inl (fun _ => 0))) := by rw [w7848, up_up (k := 2), up_z (k := 2)]
  refine x_goto (M := M_X12_trim) (tgt := 0) dX12_trim_43 (by decide) ?_
  refine x_aload_n (M := M_X12_trim) dX12_trim_0 rfl ?_
  have o7851 := (f7849 277 _ (by decide) o7844)
  refine x_getf (M := M_X12_trim) (ci := 15) (C := RX12) (T := TX12) (N := 135) (ty := tyX12) cl15 dX12_trim_1 o7851 37 (by decide) t_2428 (v := .ref 295) rfl ?_
  refine x_iload_n (M := M_X12_trim) dX12_trim_4 rfl ?_
  refine x_iald (M := M_X12_trim) dX12_trim_5 w7850 (vp_inD (by decide +kernel)) ?_
  refine x_top (M := M_X12_trim) (y := (Int32.ofInt 0)) (by decide +kernel) ?_
  refine x_if_le (M := M_X12_trim) (tgt := 46) dX12_trim_6 (by decide) (fun _ => ?_) (fun q => absurd q (by decide +kernel))
  refine x_aload_n (M := M_X12_trim) dX12_trim_46 rfl ?_
  refine x_getf (M := M_X12_trim) (ci := 15) (C := RX12) (T := TX12) (N := 135) (ty := tyX12) cl15 dX12_trim_47 o7851 37 (by decide) t_2428 (v := .ref 295) rfl ?_
  refine x_iload_n (M := M_X12_trim) dX12_trim_50 rfl ?_
  refine x_iald (M := M_X12_trim) dX12_trim_51 w7850 (vp_inD (by decide +kernel)) ?_
  refine x_top (M := M_X12_trim) (y := (Int32.ofInt 0)) (by decide +kernel) ?_
  refine x_if_ne (M := M_X12_trim) (tgt := 62) dX12_trim_52 (by decide) (fun q => absurd q (by decide +kernel)) (fun _ => ?_)
  refine x_aload_n (M := M_X12_trim) dX12_trim_55 rfl ?_
  refine x_getf (M := M_X12_trim) (ci := 15) (C := RX12) (T := TX12) (N := 135) (ty := tyX12) cl15 dX12_trim_56 o7851 38 (by decide) t_2429 (v := .ref 296) rfl ?_
  refine x_iload_n (M := M_X12_trim) dX12_trim_59 rfl ?_
  refine x_iconst (M := M_X12_trim) dX12_trim_60 ?_
  have o7853 := (f7849 296 _ (by decide) o7852)
  refine y_iast (M := M_X12_trim) (k := 2) dX12_trim_61 o7853 (vp_inD (by decide +kernel)) (by decide +kernel) (fun h7854 w7855 f7856 => ?_)
  have w7857 : ob h7854 296 = some (.inl (0, 20, .inl (fun _ => 0))) := by rw [w7855, up_z (k := 2)]
  have o7858 := (f7856 295 _ (by decide) w7850)
  exact x_vret (M := M_X12_trim) dX12_trim_62 rfl ⟨rfl, (fr_tr f7856 (by decide) (fr_tr f7849 (by decide) fr_rf)), ⟨o7858, w7857, trivial⟩⟩ (Nat.le_of_ble_eq_true rfl) (Nat.le_of_ble_eq_true rfl)
set_option maxRecDepth 10000 in
theorem q7869 {l : Launch} {E : EE} (hl : l.stackTraces = false) {h : HP} {dg : Int32} (o7815 : ob h 277 = some (.inr (15, ((RB dg).set 0 (.int (Int32.ofInt 0)))))) (o7816 : ob h 296 = some (.inl (0, 20, .inl (fun _ => 0)))) (o7831 : ob h 295 = some (.inl (0, 20, .inl (fun _ => 0)))) (o7832 : ob h 294 = some (.inl (1, 6000, .inr (.inl (fun _ => 0))))) : en_C l E M_X12_add 2 0 0 [.ref 277, .int (Int32.ofInt 2), .int (Int32.ofInt 18), .int (Int32.ofInt 19), .int (Int32.ofInt 1)] h (pF none [294, 295, 296] h (fun h' => ob h' 294 = some (.inl (1, 6000, .inr (.inl (fun _ => 0)))) ∧ ob h' 295 = some (.inl (0, 20, .inl (fun _ => 0))) ∧ ob h' 296 = some (.inl (0, 20, .inl (fun _ => 0))) ∧ True)) := by
  refine en_mk m_X12_add rfl hl (Nat.le_of_ble_eq_true rfl) ?_
  refine x_aload_n (M := M_X12_add) dX12_add_0 rfl ?_
  refine x_getf (M := M_X12_add) (ci := 15) (C := RX12) (T := TX12) (N := 135) (ty := tyX12) cl15 dX12_add_1 o7815 38 (by decide) t_2429 (v := .ref 296) rfl ?_
  refine x_iload_n (M := M_X12_add) dX12_add_4 rfl ?_
  refine x_iald (M := M_X12_add) dX12_add_5 o7816 (vp_inD (by decide +kernel)) ?_
  refine x_top (M := M_X12_add) (y := (Int32.ofInt 0)) (by decide +kernel) ?_
  refine x_istore (M := M_X12_add) dX12_add_6 (Nat.le_of_ble_eq_true rfl) rfl ?_
  refine x_iload (M := M_X12_add) dX12_add_8 rfl ?_
  refine x_if_eq (M := M_X12_add) (tgt := 23) dX12_add_10 (by decide) (fun q => absurd q (by decide +kernel)) (fun _ => ?_)
  refine x_aload_n (M := M_X12_add) dX12_add_13 rfl ?_
  refine x_getf (M := M_X12_add) (ci := 15) (C := RX12) (T := TX12) (N := 135) (ty := tyX12) cl15 dX12_add_14 o7815 38 (by decide) t_2429 (v := .ref 296) rfl ?_
  refine x_iload_n (M := M_X12_add) dX12_add_17 rfl ?_
  refine x_iald (M := M_X12_add) dX12_add_18 o7816 (vp_inD (by decide +kernel)) ?_
  refine x_top (M := M_X12_add) (y := (Int32.ofInt 0)) (by decide +kernel) ?_
  refine x_ineg (M := M_X12_add) dX12_add_19 ?_
  refine x_goto (M := M_X12_add) (tgt := 29) dX12_add_20 (by decide) ?_
  refine x_top (M := M_X12_add) (y := (Int32.ofInt 0)) (by decide +kernel) ?_
  refine x_istore (M := M_X12_add) dX12_add_29 (Nat.le_of_ble_eq_true rfl) rfl ?_
  refine x_iload (M := M_X12_add) dX12_add_31 rfl ?_
  refine x_if_eq (M := M_X12_add) (tgt := 48) dX12_add_33 (by decide) (fun _ => ?_) (fun q => absurd q (by decide +kernel))
  refine x_aload_n (M := M_X12_add) dX12_add_48 rfl ?_
  refine x_iload_n (M := M_X12_add) dX12_add_49 rfl ?_
  refine x_iload_n (M := M_X12_add) dX12_add_50 rfl ?_
  refine x_iload_n (M := M_X12_add) dX12_add_51 rfl ?_
  refine y_callVR (M := M_X12_add) (M' := M_X12_addSizes) rfl rfl dX12_add_52 m_X12_addSizes t_3178 t_3180 s_215 (q7830 hl o7815 o7831 o7832) rfl rfl o7815 rfl (Nat.le_of_ble_eq_true rfl) (Nat.le_of_ble_eq_true rfl) (Nat.le_of_ble_eq_true rfl) (Nat.le_of_ble_eq_true rfl) (fun h7833 f7834 w7835 => ?_)
  obtain ⟨o7836, o7837, -⟩ := w7835
  refine x_aload_n (M := M_X12_add) dX12_add_55 rfl ?_
  have o7838 := (f7834 277 _ (by decide) o7815)
  refine x_getf (M := M_X12_add) (ci := 15) (C := RX12) (T := TX12) (N := 135) (ty := tyX12) cl15 dX12_add_56 o7838 38 (by decide) t_2429 (v := .ref 296) rfl ?_
  refine x_iload_n (M := M_X12_add) dX12_add_59 rfl ?_
  refine x_iload (M := M_X12_add) dX12_add_60 rfl ?_
  refine x_if_ne (M := M_X12_add) (tgt := 70) dX12_add_62 (by decide) (fun q => absurd q (by decide +kernel)) (fun _ => ?_)
  refine x_iload (M := M_X12_add) dX12_add_65 rfl ?_
  refine x_goto (M := M_X12_add) (tgt := 72) dX12_add_67 (by decide) ?_
  have o7839 := (f7834 296 _ (by decide) o7816)
  refine y_iast (M := M_X12_add) (k := 2) dX12_add_72 o7839 (vp_inD (by decide +kernel)) (by decide +kernel) (fun h7840 w7841 f7842 => ?_)
  have w7843 : ob h7840 296 = some (.inl (0, 20, .inl (fun _ => 0))) := by rw [w7841, up_z (k := 2)]
  refine x_goto (M := M_X12_add) (tgt := 118) dX12_add_73 (by decide) ?_
  refine x_aload_n (M := M_X12_add) dX12_add_118 rfl ?_
  refine x_iload_n (M := M_X12_add) dX12_add_119 rfl ?_
  have o7860 := (f7842 277 _ (by decide) o7838)
  have o7861 := (f7842 295 _ (by decide) o7837)
  have o7862 := (f7842 294 _ (by decide) o7836)
  refine y_callVR (M := M_X12_add) (M' := M_X12_trim) rfl rfl dX12_add_120 m_X12_trim t_3170 t_3172 s_213 (q7859 hl o7860 o7861 o7862 w7843) rfl rfl o7860 rfl (Nat.le_of_ble_eq_true rfl) (Nat.le_of_ble_eq_true rfl) (Nat.le_of_ble_eq_true rfl) (Nat.le_of_ble_eq_true rfl) (fun h7863 f7864 w7865 => ?_)
  obtain ⟨o7866, o7867, -⟩ := w7865
  have o7868 := (f7864 294 _ (by decide) o7862)
  exact x_vret (M := M_X12_add) dX12_add_123 rfl ⟨rfl, (fr_tr f7864 (by decide) (fr_tr f7842 (by decide) (fr_tr f7834 (by decide) fr_rf))), ⟨o7868, o7866, o7867, trivial⟩⟩ (Nat.le_of_ble_eq_true rfl) (Nat.le_of_ble_eq_true rfl)
set_option maxRecDepth 10000 in
theorem q7877 {l : Launch} {E : EE} (hl : l.stackTraces = false) {h : HP} {a0 : Int32} {a1 : Int32} {dg : Int32} (c0 : ¬ (a0.toInt < 0)) (c1 : a0.toInt < 32) (c2 : ¬ (a1.toInt < 0)) (c3 : a1.toInt < 32) (o7796 : ob h 277 = some (.inr (15, ((RB dg).set 0 (.int (Int32.ofInt 0)))))) (o7797 : ob h 298 = some (.inl (1, 32, .inr (.inl (fun _ => 0))))) (o7798 : ob h 294 = some (.inl (1, 6000, .inr (.inl (fun _ => 0))))) (o7799 : ob h 295 = some (.inl (0, 20, .inl (fun _ => 0)))) (o7800 : ob h 296 = some (.inl (0, 20, .inl (fun _ => 0)))) : en_C l E M_X12_between 3 0 0 [.ref 277, .int (Int32.ofInt 2), .int (Int32.ofInt 0), .int a1, .int a0] h (pF none [294, 295, 296] h (fun h' => ob h' 294 = some (.inl (1, 6000, .inr (.inl (fun _ => 0)))) ∧ ob h' 295 = some (.inl (0, 20, .inl (fun _ => 0))) ∧ ob h' 296 = some (.inl (0, 20, .inl (fun _ => 0))) ∧ True)) := by
  refine en_mk m_X12_between rfl hl (Nat.le_of_ble_eq_true rfl) ?_
  refine x_aload_n (M := M_X12_between) dX12_between_0 rfl ?_
  refine x_bipush (M := M_X12_between) dX12_between_1 ?_
  refine x_iload_n (M := M_X12_between) dX12_between_3 rfl ?_
  refine x_if_eq (M := M_X12_between) (tgt := 16) dX12_between_4 (by decide) (fun _ => ?_) (fun q => absurd q (by decide +kernel))
  refine x_aload_n (M := M_X12_between) dX12_between_16 rfl ?_
  refine x_getf (M := M_X12_between) (ci := 15) (C := RX12) (T := TX12) (N := 135) (ty := tyX12) cl15 dX12_between_17 o7796 40 (by decide) t_2431 (v := .ref 298) rfl ?_
  refine x_iload_n (M := M_X12_between) dX12_between_20 rfl ?_
  refine x_lald (M := M_X12_between) dX12_between_21 o7797 (vp_in_s (by omega) (by omega)) ?_
  refine x_topl (M := M_X12_between) (y := (Int64.ofInt 0)) rfl ?_
  refine x_norm (M := M_X12_between) (st' := [.long (Int64.ofInt 0), .int (Int32.ofInt 18), .ref 277]) rfl (v_cons (vi_cons (by decide +kernel : ((Int8.ofInt 18).toInt32) = (Int32.ofInt 18)) rfl)) rfl rfl rfl ?_
  refine y_callVR (M := M_X12_between) (M' := M_X12_load) rfl rfl dX12_between_22 m_X12_load t_3165 t_3167 s_212 (q7538 hl o7796 o7798 o7799 o7800) rfl rfl o7796 rfl (Nat.le_of_ble_eq_true rfl) (Nat.le_of_ble_eq_true rfl) (Nat.le_of_ble_eq_true rfl) (Nat.le_of_ble_eq_true rfl) (fun h7801 f7802 w7803 => ?_)
  obtain ⟨o7804, o7805, o7806, -⟩ := w7803
  refine x_aload_n (M := M_X12_between) dX12_between_25 rfl ?_
  refine x_bipush (M := M_X12_between) dX12_between_26 ?_
  refine x_iload_n (M := M_X12_between) dX12_between_28 rfl ?_
  refine x_if_eq (M := M_X12_between) (tgt := 42) dX12_between_29 (by decide) (fun _ => ?_) (fun q => absurd q (by decide +kernel))
  refine x_aload_n (M := M_X12_between) dX12_between_42 rfl ?_
  have o7807 := (f7802 277 _ (by decide) o7796)
  refine x_getf (M := M_X12_between) (ci := 15) (C := RX12) (T := TX12) (N := 135) (ty := tyX12) cl15 dX12_between_43 o7807 40 (by decide) t_2431 (v := .ref 298) rfl ?_
  refine x_iload (M := M_X12_between) dX12_between_46 rfl ?_
  have o7808 := (f7802 298 _ (by decide) o7797)
  refine x_lald (M := M_X12_between) dX12_between_48 o7808 (vp_in_s (by omega) (by omega)) ?_
  refine x_topl (M := M_X12_between) (y := (Int64.ofInt 0)) rfl ?_
  refine x_norm (M := M_X12_between) (st' := [.long (Int64.ofInt 0), .int (Int32.ofInt 19), .ref 277]) rfl (v_cons (vi_cons (by decide +kernel : ((Int8.ofInt 19).toInt32) = (Int32.ofInt 19)) rfl)) rfl rfl rfl ?_
  refine y_callVR (M := M_X12_between) (M' := M_X12_load) rfl rfl dX12_between_49 m_X12_load t_3165 t_3167 s_212 (q7615 hl o7807 o7804 o7805 o7806) rfl rfl o7807 rfl (Nat.le_of_ble_eq_true rfl) (Nat.le_of_ble_eq_true rfl) (Nat.le_of_ble_eq_true rfl) (Nat.le_of_ble_eq_true rfl) (fun h7809 f7810 w7811 => ?_)
  obtain ⟨o7812, o7813, o7814, -⟩ := w7811
  refine x_aload_n (M := M_X12_between) dX12_between_52 rfl ?_
  refine x_iload_n (M := M_X12_between) dX12_between_53 rfl ?_
  refine x_bipush (M := M_X12_between) dX12_between_54 ?_
  refine x_bipush (M := M_X12_between) dX12_between_56 ?_
  refine x_iconst (M := M_X12_between) dX12_between_58 ?_
  refine x_norm (M := M_X12_between) (st' := [.int (Int32.ofInt 1), .int (Int32.ofInt 19), .int (Int32.ofInt 18), .int (Int32.ofInt 2), .ref 277]) rfl (v_cons (vi_cons (by decide +kernel : ((Int8.ofInt 19).toInt32) = (Int32.ofInt 19)) (vi_cons (by decide +kernel : ((Int8.ofInt 18).toInt32) = (Int32.ofInt 18)) rfl))) rfl rfl rfl ?_
  have o7870 := (f7810 277 _ (by decide) o7807)
  refine y_callVR (M := M_X12_between) (M' := M_X12_add) rfl rfl dX12_between_59 m_X12_add t_3174 t_3176 s_214 (q7869 hl o7870 o7814 o7813 o7812) rfl rfl o7870 rfl (Nat.le_of_ble_eq_true rfl) (Nat.le_of_ble_eq_true rfl) (Nat.le_of_ble_eq_true rfl) (Nat.le_of_ble_eq_true rfl) (fun h7871 f7872 w7873 => ?_)
  obtain ⟨o7874, o7875, o7876, -⟩ := w7873
  exact x_vret (M := M_X12_between) dX12_between_62 rfl ⟨rfl, (fr_tr f7872 (by decide) (fr_tr f7810 (by decide) (fr_tr f7802 (by decide) fr_rf))), ⟨o7874, o7875, o7876, trivial⟩⟩ (Nat.le_of_ble_eq_true rfl) (Nat.le_of_ble_eq_true rfl)
set_option maxRecDepth 10000 in
theorem q7920 {l : Launch} {E : EE} (hl : l.stackTraces = false) {h : HP} {dg : Int32} (o7907 : ob h 277 = some (.inr (15, ((RB dg).set 0 (.int (Int32.ofInt 0)))))) (o7908 : ob h 295 = some (.inl (0, 20, .inl (fun _ => 0)))) (o7909 : ob h 294 = some (.inl (1, 6000, .inr (.inl (fun _ => 0))))) : en_C l E M_X12_addSizes 1 0 0 [.ref 277, .int (Int32.ofInt 3), .int (Int32.ofInt 18), .int (Int32.ofInt 19)] h (pF none [294, 295] h (fun h' => ob h' 294 = some (.inl (1, 6000, .inr (.inl (fun _ => 0)))) ∧ ob h' 295 = some (.inl (0, 20, .inl (upd (fun _ => 0) 3 (Int32.ofInt 1)))) ∧ True)) := by
  refine en_mk m_X12_addSizes rfl hl (Nat.le_of_ble_eq_true rfl) ?_
  refine x_aload_n (M := M_X12_addSizes) dX12_addSizes_0 rfl ?_
  refine x_getf (M := M_X12_addSizes) (ci := 15) (C := RX12) (T := TX12) (N := 135) (ty := tyX12) cl15 dX12_addSizes_1 o7907 37 (by decide) t_2428 (v := .ref 295) rfl ?_
  refine x_iload_n (M := M_X12_addSizes) dX12_addSizes_4 rfl ?_
  refine x_iald (M := M_X12_addSizes) dX12_addSizes_5 o7908 (vp_inD (by decide +kernel)) ?_
  refine x_top (M := M_X12_addSizes) (y := (Int32.ofInt 0)) (by decide +kernel) ?_
  refine x_aload_n (M := M_X12_addSizes) dX12_addSizes_6 rfl ?_
  refine x_getf (M := M_X12_addSizes) (ci := 15) (C := RX12) (T := TX12) (N := 135) (ty := tyX12) cl15 dX12_addSizes_7 o7907 37 (by decide) t_2428 (v := .ref 295) rfl ?_
  refine x_iload_n (M := M_X12_addSizes) dX12_addSizes_10 rfl ?_
  refine x_iald (M := M_X12_addSizes) dX12_addSizes_11 o7908 (vp_inD (by decide +kernel)) ?_
  refine x_top (M := M_X12_addSizes) (y := (Int32.ofInt 0)) (by decide +kernel) ?_
  refine x_icmp_le (M := M_X12_addSizes) (tgt := 24) dX12_addSizes_12 (by decide) (fun _ => ?_) (fun q => absurd q (by decide +kernel))
  refine x_aload_n (M := M_X12_addSizes) dX12_addSizes_24 rfl ?_
  refine x_getf (M := M_X12_addSizes) (ci := 15) (C := RX12) (T := TX12) (N := 135) (ty := tyX12) cl15 dX12_addSizes_25 o7907 37 (by decide) t_2428 (v := .ref 295) rfl ?_
  refine x_iload_n (M := M_X12_addSizes) dX12_addSizes_28 rfl ?_
  refine x_iald (M := M_X12_addSizes) dX12_addSizes_29 o7908 (vp_inD (by decide +kernel)) ?_
  refine x_top (M := M_X12_addSizes) (y := (Int32.ofInt 0)) (by decide +kernel) ?_
  refine x_iconst (M := M_X12_addSizes) dX12_addSizes_30 ?_
  refine x_iadd (M := M_X12_addSizes) dX12_addSizes_31 ?_
  refine x_top (M := M_X12_addSizes) (y := (Int32.ofInt 1)) (by decide +kernel) ?_
  refine x_istore (M := M_X12_addSizes) dX12_addSizes_32 (Nat.le_of_ble_eq_true rfl) rfl ?_
  refine x_lconst (M := M_X12_addSizes) dX12_addSizes_34 ?_
  refine x_topl (M := M_X12_addSizes) (y := (Int64.ofInt 0)) (by decide +kernel) ?_
  refine x_lstore (M := M_X12_addSizes) dX12_addSizes_35 (Nat.le_of_ble_eq_true rfl) rfl ?_
  refine x_iconst (M := M_X12_addSizes) dX12_addSizes_37 ?_
  refine x_istore (M := M_X12_addSizes) dX12_addSizes_38 (Nat.le_of_ble_eq_true rfl) rfl ?_
  refine x_iload (M := M_X12_addSizes) dX12_addSizes_40 rfl ?_
  refine x_iload (M := M_X12_addSizes) dX12_addSizes_42 rfl ?_
  refine x_icmp_ge (M := M_X12_addSizes) (tgt := 99) dX12_addSizes_44 (by decide) (fun q => absurd q (by decide +kernel)) (fun _ => ?_)
  refine x_lload (M := M_X12_addSizes) dX12_addSizes_47 rfl ?_
  refine x_aload_n (M := M_X12_addSizes) dX12_addSizes_49 rfl ?_
  refine x_iload_n (M := M_X12_addSizes) dX12_addSizes_50 rfl ?_
  refine x_iload (M := M_X12_addSizes) dX12_addSizes_51 rfl ?_
  refine x_callVR (M := M_X12_addSizes) (M' := M_X12_limb) rfl rfl dX12_addSizes_53 m_X12_limb t_3182 t_3184 s_216 (q7628 hl o7907 o7908) rfl rfl o7907 rfl (Nat.le_of_ble_eq_true rfl) (Nat.le_of_ble_eq_true rfl) (Nat.le_of_ble_eq_true rfl) (Nat.le_of_ble_eq_true rfl) ?_
  refine x_aload_n (M := M_X12_addSizes) dX12_addSizes_56 rfl ?_
  refine x_iload_n (M := M_X12_addSizes) dX12_addSizes_57 rfl ?_
  refine x_iload (M := M_X12_addSizes) dX12_addSizes_58 rfl ?_
  refine x_callVR (M := M_X12_addSizes) (M' := M_X12_limb) rfl rfl dX12_addSizes_60 m_X12_limb t_3182 t_3184 s_216 (q7631 hl o7907 o7908) rfl rfl o7907 rfl (Nat.le_of_ble_eq_true rfl) (Nat.le_of_ble_eq_true rfl) (Nat.le_of_ble_eq_true rfl) (Nat.le_of_ble_eq_true rfl) ?_
  refine x_ladd (M := M_X12_addSizes) dX12_addSizes_63 ?_
  refine x_ladd (M := M_X12_addSizes) dX12_addSizes_64 ?_
  refine x_topl (M := M_X12_addSizes) (y := (Int64.ofInt 0)) (by decide +kernel) ?_
  refine x_lstore (M := M_X12_addSizes) dX12_addSizes_65 (Nat.le_of_ble_eq_true rfl) rfl ?_
  refine x_aload_n (M := M_X12_addSizes) dX12_addSizes_67 rfl ?_
  refine x_getf (M := M_X12_addSizes) (ci := 15) (C := RX12) (T := TX12) (N := 135) (ty := tyX12) cl15 dX12_addSizes_68 o7907 36 (by decide) t_2427 (v := .ref 294) rfl ?_
  refine x_sipush (M := M_X12_addSizes) dX12_addSizes_71 ?_
  refine x_iload_n (M := M_X12_addSizes) dX12_addSizes_74 rfl ?_
  refine x_imul (M := M_X12_addSizes) dX12_addSizes_75 ?_
  refine x_iload (M := M_X12_addSizes) dX12_addSizes_76 rfl ?_
  refine x_iadd (M := M_X12_addSizes) dX12_addSizes_78 ?_
  refine x_lload (M := M_X12_addSizes) dX12_addSizes_79 rfl ?_
  refine x_ldc2 (M := M_X12_addSizes) dX12_addSizes_81 t_3169 ?_
  refine x_land (M := M_X12_addSizes) dX12_addSizes_84 ?_
  refine x_norm (M := M_X12_addSizes) (st' := [.long (Int64.ofInt 0), .int (Int32.ofInt 900), .ref 294]) rfl (vj_cons (by decide +kernel : ((Int64.ofInt 0) &&& (4294967295 : Int64)) = (Int64.ofInt 0)) (vi_cons (by decide +kernel : ((((Int16.ofInt 300).toInt32) * (Int32.ofInt 3)) + (Int32.ofInt 0)) = (Int32.ofInt 900)) rfl)) rfl rfl rfl ?_
  refine y_last (M := M_X12_addSizes) (k := 900) dX12_addSizes_85 o7909 (vp_inD (by decide +kernel)) (by decide +kernel) (fun h7910 w7911 f7912 => ?_)
  have w7913 : ob h7910 294 = some (.inl (1, 6000, .inr (.inl (fun _ => 0)))) := by rw [w7911, uq_z (k := 900)]
  refine x_lload (M := M_X12_addSizes) dX12_addSizes_86 rfl ?_
  refine x_bipush (M := M_X12_addSizes) dX12_addSizes_88 ?_
  refine x_lushr (M := M_X12_addSizes) dX12_addSizes_90 ?_
  refine x_topl (M := M_X12_addSizes) (y := (Int64.ofInt 0)) (by decide +kernel) ?_
  refine x_lstore (M := M_X12_addSizes) dX12_addSizes_91 (Nat.le_of_ble_eq_true rfl) rfl ?_
  refine x_lvs (M := M_X12_addSizes) (lv' := [some (.ref 277), some (.int (Int32.ofInt 3)), some (.int (Int32.ofInt 18)), some (.int (Int32.ofInt 19)), some (.int (Int32.ofInt 1)), some (.long (Int64.ofInt 0)), none, some (.int (Int32.ofInt 0))]) rfl ?_
  refine x_iinc (M := M_X12_addSizes) dX12_addSizes_93 rfl (Nat.le_of_ble_eq_true rfl) rfl ?_
  refine x_lvs (M := M_X12_addSizes) (lv' := [some (.ref 277), some (.int (Int32.ofInt 3)), some (.int (Int32.ofInt 18)), some (.int (Int32.ofInt 19)), some (.int (Int32.ofInt 1)), some (.long (Int64.ofInt 0)), none, some (.int (Int32.ofInt 1))]) (by rw [(by decide +kernel : (Int32.ofInt 0) + Int32.ofInt 1 = (Int32.ofInt 1))] <;> rfl) ?_
  refine x_goto (M := M_X12_addSizes) (tgt := 40) dX12_addSizes_96 (by decide) ?_
  refine x_iload (M := M_X12_addSizes) dX12_addSizes_40 rfl ?_
  refine x_iload (M := M_X12_addSizes) dX12_addSizes_42 rfl ?_
  refine x_icmp_ge (M := M_X12_addSizes) (tgt := 99) dX12_addSizes_44 (by decide) (fun _ => ?_) (fun q => absurd q (by decide +kernel))
  refine x_aload_n (M := M_X12_addSizes) dX12_addSizes_99 rfl ?_
  have o7914 := (f7912 277 _ (by decide) o7907)
  refine x_getf (M := M_X12_addSizes) (ci := 15) (C := RX12) (T := TX12) (N := 135) (ty := tyX12) cl15 dX12_addSizes_100 o7914 37 (by decide) t_2428 (v := .ref 295) rfl ?_
  refine x_iload_n (M := M_X12_addSizes) dX12_addSizes_103 rfl ?_
  refine x_iload (M := M_X12_addSizes) dX12_addSizes_104 rfl ?_
  have o7915 := (f7912 295 _ (by decide) o7908)
  refine y_iast (M := M_X12_addSizes) (k := 3) dX12_addSizes_106 o7915 (vp_inD (by decide +kernel)) (by decide +kernel) (fun h7916 w7917 f7918 => ?_)
  have o7919 := (f7918 294 _ (by decide) w7913)
  exact x_vret (M := M_X12_addSizes) dX12_addSizes_107 rfl ⟨rfl, (fr_tr f7918 (by decide) (fr_tr f7912 (by decide) fr_rf)), ⟨o7919, w7917, trivial⟩⟩ (Nat.le_of_ble_eq_true rfl) (Nat.le_of_ble_eq_true rfl)
set_option maxRecDepth 10000 in
theorem q7949 {l : Launch} {E : EE} (hl : l.stackTraces = false) {h : HP} {dg : Int32} (o7934 : ob h 277 = some (.inr (15, ((RB dg).set 0 (.int (Int32.ofInt 0)))))) (o7935 : ob h 295 = some (.inl (0, 20, .inl (upd (fun _ => 0) 3 (Int32.ofInt 1))))) (o7936 : ob h 294 = some (.inl (1, 6000, .inr (.inl (fun _ => 0))))) (o7942 : ob h 296 = some (.inl (0, 20, .inl (fun _ => 0)))) : en_C l E M_X12_trim 0 0 0 [.ref 277, .int (Int32.ofInt 3)] h (pF none [295, 296] h (fun h' => ob h' 295 = some (.inl (0, 20, .inl (fun _ => 0))) ∧ ob h' 296 = some (.inl (0, 20, .inl (fun _ => 0))) ∧ True)) := by
  refine en_mk m_X12_trim rfl hl (Nat.le_of_ble_eq_true rfl) ?_
  refine x_aload_n (M := M_X12_trim) dX12_trim_0 rfl ?_
  refine x_getf (M := M_X12_trim) (ci := 15) (C := RX12) (T := TX12) (N := 135) (ty := tyX12) cl15 dX12_trim_1 o7934 37 (by decide) t_2428 (v := .ref 295) rfl ?_
  refine x_iload_n (M := M_X12_trim) dX12_trim_4 rfl ?_
  refine x_iald (M := M_X12_trim) dX12_trim_5 o7935 (vp_inD (by decide +kernel)) ?_
  refine x_top (M := M_X12_trim) (y := (Int32.ofInt 1)) (by decide +kernel) ?_
  refine x_if_le (M := M_X12_trim) (tgt := 46) dX12_trim_6 (by decide) (fun q => absurd q (by decide +kernel)) (fun _ => ?_)
  refine x_aload_n (M := M_X12_trim) dX12_trim_9 rfl ?_
  refine x_getf (M := M_X12_trim) (ci := 15) (C := RX12) (T := TX12) (N := 135) (ty := tyX12) cl15 dX12_trim_10 o7934 36 (by decide) t_2427 (v := .ref 294) rfl ?_
  refine x_sipush (M := M_X12_trim) dX12_trim_13 ?_
  refine x_iload_n (M := M_X12_trim) dX12_trim_16 rfl ?_
  refine x_imul (M := M_X12_trim) dX12_trim_17 ?_
  refine x_aload_n (M := M_X12_trim) dX12_trim_18 rfl ?_
  refine x_getf (M := M_X12_trim) (ci := 15) (C := RX12) (T := TX12) (N := 135) (ty := tyX12) cl15 dX12_trim_19 o7934 37 (by decide) t_2428 (v := .ref 295) rfl ?_
  refine x_iload_n (M := M_X12_trim) dX12_trim_22 rfl ?_
  refine x_iald (M := M_X12_trim) dX12_trim_23 o7935 (vp_inD (by decide +kernel)) ?_
  refine x_top (M := M_X12_trim) (y := (Int32.ofInt 1)) (by decide +kernel) ?_
  refine x_iadd (M := M_X12_trim) dX12_trim_24 ?_
  refine x_iconst (M := M_X12_trim) dX12_trim_25 ?_
  refine x_isub (M := M_X12_trim) dX12_trim_26 ?_
  refine x_lald (M := M_X12_trim) dX12_trim_27 o7936 (vp_inD (by decide +kernel)) ?_
  refine x_topl (M := M_X12_trim) (y := (Int64.ofInt 0)) (by decide +kernel) ?_
  refine x_lconst (M := M_X12_trim) dX12_trim_28 ?_
  refine x_lcmp (M := M_X12_trim) dX12_trim_29 ?_
  refine x_if_ne (M := M_X12_trim) (tgt := 46) dX12_trim_30 (by decide) (fun q => absurd q (by decide +kernel)) (fun _ => ?_)
  refine x_aload_n (M := M_X12_trim) dX12_trim_33 rfl ?_
  refine x_getf (M := M_X12_trim) (ci := 15) (C := RX12) (T := TX12) (N := 135) (ty := tyX12) cl15 dX12_trim_34 o7934 37 (by decide) t_2428 (v := .ref 295) rfl ?_
  refine x_iload_n (M := M_X12_trim) dX12_trim_37 rfl ?_
  refine x_dup2 (M := M_X12_trim) dX12_trim_38 rfl rfl ?_
  refine x_iald (M := M_X12_trim) dX12_trim_39 o7935 (vp_inD (by decide +kernel)) ?_
  refine x_top (M := M_X12_trim) (y := (Int32.ofInt 1)) (by decide +kernel) ?_
  refine x_iconst (M := M_X12_trim) dX12_trim_40 ?_
  refine x_isub (M := M_X12_trim) dX12_trim_41 ?_
  refine x_norm (M := M_X12_trim) (st' := [.int (Int32.ofInt 0), .int (Int32.ofInt 3), .ref 295]) rfl (vi_cons (by decide +kernel : ((Int32.ofInt 1) - (Int32.ofInt 1)) = (Int32.ofInt 0)) rfl) rfl rfl rfl ?_
  refine y_iast (M := M_X12_trim) (k := 3) dX12_trim_42 o7935 (vp_inD (by decide +kernel)) (by decide +kernel) (fun h7937 w7938 f7939 => ?_)
  have w7940 : ob h7937 295 = some (.inl (0, 20, .inl (fun _ => 0))) := by rw [w7938, up_up (k := 3), up_z (k := 3)]
  refine x_goto (M := M_X12_trim) (tgt := 0) dX12_trim_43 (by decide) ?_
  refine x_aload_n (M := M_X12_trim) dX12_trim_0 rfl ?_
  have o7941 := (f7939 277 _ (by decide) o7934)
  refine x_getf (M := M_X12_trim) (ci := 15) (C := RX12) (T := TX12) (N := 135) (ty := tyX12) cl15 dX12_trim_1 o7941 37 (by decide) t_2428 (v := .ref 295) rfl ?_
  refine x_iload_n (M := M_X12_trim) dX12_trim_4 rfl ?_
  refine x_iald (M := M_X12_trim) dX12_trim_5 w7940 (vp_inD (by decide +kernel)) ?_
  refine x_top (M := M_X12_trim) (y := (Int32.ofInt 0)) (by decide +kernel) ?_
  refine x_if_le (M := M_X12_trim) (tgt := 46) dX12_trim_6 (by decide) (fun _ => ?_) (fun q => absurd q (by decide +kernel))
  refine x_aload_n (M := M_X12_trim) dX12_trim_46 rfl ?_
  refine x_getf (M := M_X12_trim) (ci := 15) (C := RX12) (T := TX12) (N := 135) (ty := tyX12) cl15 dX12_trim_47 o7941 37 (by decide) t_2428 (v := .ref 295) rfl ?_
  refine x_iload_n (M := M_X12_trim) dX12_trim_50 rfl ?_
  refine x_iald (M := M_X12_trim) dX12_trim_51 w7940 (vp_inD (by decide +kernel)) ?_
  refine x_top (M := M_X12_trim) (y := (Int32.ofInt 0)) (by decide +kernel) ?_
  refine x_if_ne (M := M_X12_trim) (tgt := 62) dX12_trim_52 (by decide) (fun q => absurd q (by decide +kernel)) (fun _ => ?_)
  refine x_aload_n (M := M_X12_trim) dX12_trim_55 rfl ?_
  refine x_getf (M := M_X12_trim) (ci := 15) (C := RX12) (T := TX12) (N := 135) (ty := tyX12) cl15 dX12_trim_56 o7941 38 (by decide) t_2429 (v := .ref 296) rfl ?_
  refine x_iload_n (M := M_X12_trim) dX12_trim_59 rfl ?_
  refine x_iconst (M := M_X12_trim) dX12_trim_60 ?_
  have o7943 := (f7939 296 _ (by decide) o7942)
  refine y_iast (M := M_X12_trim) (k := 3) dX12_trim_61 o7943 (vp_inD (by decide +kernel)) (by decide +kernel) (fun h7944 w7945 f7946 => ?_)
  have w7947 : ob h7944 296 = some (.inl (0, 20, .inl (fun _ => 0))) := by rw [w7945, up_z (k := 3)]
  have o7948 := (f7946 295 _ (by decide) w7940)
  exact x_vret (M := M_X12_trim) dX12_trim_62 rfl ⟨rfl, (fr_tr f7946 (by decide) (fr_tr f7939 (by decide) fr_rf)), ⟨o7948, w7947, trivial⟩⟩ (Nat.le_of_ble_eq_true rfl) (Nat.le_of_ble_eq_true rfl)
set_option maxRecDepth 10000 in
theorem q7959 {l : Launch} {E : EE} (hl : l.stackTraces = false) {h : HP} {dg : Int32} (o7905 : ob h 277 = some (.inr (15, ((RB dg).set 0 (.int (Int32.ofInt 0)))))) (o7906 : ob h 296 = some (.inl (0, 20, .inl (fun _ => 0)))) (o7921 : ob h 295 = some (.inl (0, 20, .inl (fun _ => 0)))) (o7922 : ob h 294 = some (.inl (1, 6000, .inr (.inl (fun _ => 0))))) : en_C l E M_X12_add 2 0 0 [.ref 277, .int (Int32.ofInt 3), .int (Int32.ofInt 18), .int (Int32.ofInt 19), .int (Int32.ofInt 1)] h (pF none [294, 295, 296] h (fun h' => ob h' 294 = some (.inl (1, 6000, .inr (.inl (fun _ => 0)))) ∧ ob h' 295 = some (.inl (0, 20, .inl (fun _ => 0))) ∧ ob h' 296 = some (.inl (0, 20, .inl (fun _ => 0))) ∧ True)) := by
  refine en_mk m_X12_add rfl hl (Nat.le_of_ble_eq_true rfl) ?_
  refine x_aload_n (M := M_X12_add) dX12_add_0 rfl ?_
  refine x_getf (M := M_X12_add) (ci := 15) (C := RX12) (T := TX12) (N := 135) (ty := tyX12) cl15 dX12_add_1 o7905 38 (by decide) t_2429 (v := .ref 296) rfl ?_
  refine x_iload_n (M := M_X12_add) dX12_add_4 rfl ?_
  refine x_iald (M := M_X12_add) dX12_add_5 o7906 (vp_inD (by decide +kernel)) ?_
  refine x_top (M := M_X12_add) (y := (Int32.ofInt 0)) (by decide +kernel) ?_
  refine x_istore (M := M_X12_add) dX12_add_6 (Nat.le_of_ble_eq_true rfl) rfl ?_
  refine x_iload (M := M_X12_add) dX12_add_8 rfl ?_
  refine x_if_eq (M := M_X12_add) (tgt := 23) dX12_add_10 (by decide) (fun q => absurd q (by decide +kernel)) (fun _ => ?_)
  refine x_aload_n (M := M_X12_add) dX12_add_13 rfl ?_
  refine x_getf (M := M_X12_add) (ci := 15) (C := RX12) (T := TX12) (N := 135) (ty := tyX12) cl15 dX12_add_14 o7905 38 (by decide) t_2429 (v := .ref 296) rfl ?_
  refine x_iload_n (M := M_X12_add) dX12_add_17 rfl ?_
  refine x_iald (M := M_X12_add) dX12_add_18 o7906 (vp_inD (by decide +kernel)) ?_
  refine x_top (M := M_X12_add) (y := (Int32.ofInt 0)) (by decide +kernel) ?_
  refine x_ineg (M := M_X12_add) dX12_add_19 ?_
  refine x_goto (M := M_X12_add) (tgt := 29) dX12_add_20 (by decide) ?_
  refine x_top (M := M_X12_add) (y := (Int32.ofInt 0)) (by decide +kernel) ?_
  refine x_istore (M := M_X12_add) dX12_add_29 (Nat.le_of_ble_eq_true rfl) rfl ?_
  refine x_iload (M := M_X12_add) dX12_add_31 rfl ?_
  refine x_if_eq (M := M_X12_add) (tgt := 48) dX12_add_33 (by decide) (fun _ => ?_) (fun q => absurd q (by decide +kernel))
  refine x_aload_n (M := M_X12_add) dX12_add_48 rfl ?_
  refine x_iload_n (M := M_X12_add) dX12_add_49 rfl ?_
  refine x_iload_n (M := M_X12_add) dX12_add_50 rfl ?_
  refine x_iload_n (M := M_X12_add) dX12_add_51 rfl ?_
  refine y_callVR (M := M_X12_add) (M' := M_X12_addSizes) rfl rfl dX12_add_52 m_X12_addSizes t_3178 t_3180 s_215 (q7920 hl o7905 o7921 o7922) rfl rfl o7905 rfl (Nat.le_of_ble_eq_true rfl) (Nat.le_of_ble_eq_true rfl) (Nat.le_of_ble_eq_true rfl) (Nat.le_of_ble_eq_true rfl) (fun h7923 f7924 w7925 => ?_)
  obtain ⟨o7926, o7927, -⟩ := w7925
  refine x_aload_n (M := M_X12_add) dX12_add_55 rfl ?_
  have o7928 := (f7924 277 _ (by decide) o7905)
  refine x_getf (M := M_X12_add) (ci := 15) (C := RX12) (T := TX12) (N := 135) (ty := tyX12) cl15 dX12_add_56 o7928 38 (by decide) t_2429 (v := .ref 296) rfl ?_
  refine x_iload_n (M := M_X12_add) dX12_add_59 rfl ?_
  refine x_iload (M := M_X12_add) dX12_add_60 rfl ?_
  refine x_if_ne (M := M_X12_add) (tgt := 70) dX12_add_62 (by decide) (fun q => absurd q (by decide +kernel)) (fun _ => ?_)
  refine x_iload (M := M_X12_add) dX12_add_65 rfl ?_
  refine x_goto (M := M_X12_add) (tgt := 72) dX12_add_67 (by decide) ?_
  have o7929 := (f7924 296 _ (by decide) o7906)
  refine y_iast (M := M_X12_add) (k := 3) dX12_add_72 o7929 (vp_inD (by decide +kernel)) (by decide +kernel) (fun h7930 w7931 f7932 => ?_)
  have w7933 : ob h7930 296 = some (.inl (0, 20, .inl (fun _ => 0))) := by rw [w7931, up_z (k := 3)]
  refine x_goto (M := M_X12_add) (tgt := 118) dX12_add_73 (by decide) ?_
  refine x_aload_n (M := M_X12_add) dX12_add_118 rfl ?_
  refine x_iload_n (M := M_X12_add) dX12_add_119 rfl ?_
  have o7950 := (f7932 277 _ (by decide) o7928)
  have o7951 := (f7932 295 _ (by decide) o7927)
  have o7952 := (f7932 294 _ (by decide) o7926)
  refine y_callVR (M := M_X12_add) (M' := M_X12_trim) rfl rfl dX12_add_120 m_X12_trim t_3170 t_3172 s_213 (q7949 hl o7950 o7951 o7952 w7933) rfl rfl o7950 rfl (Nat.le_of_ble_eq_true rfl) (Nat.le_of_ble_eq_true rfl) (Nat.le_of_ble_eq_true rfl) (Nat.le_of_ble_eq_true rfl) (fun h7953 f7954 w7955 => ?_)
  obtain ⟨o7956, o7957, -⟩ := w7955
  have o7958 := (f7954 294 _ (by decide) o7952)
  exact x_vret (M := M_X12_add) dX12_add_123 rfl ⟨rfl, (fr_tr f7954 (by decide) (fr_tr f7932 (by decide) (fr_tr f7924 (by decide) fr_rf))), ⟨o7958, o7956, o7957, trivial⟩⟩ (Nat.le_of_ble_eq_true rfl) (Nat.le_of_ble_eq_true rfl)
set_option maxRecDepth 10000 in
theorem q7967 {l : Launch} {E : EE} (hl : l.stackTraces = false) {h : HP} {a0 : Int32} {a2 : Int32} {dg : Int32} (c0 : ¬ (a0.toInt < 0)) (c1 : a0.toInt < 32) (c2 : ¬ (a2.toInt < 0)) (c3 : a2.toInt < 32) (o7886 : ob h 277 = some (.inr (15, ((RB dg).set 0 (.int (Int32.ofInt 0)))))) (o7887 : ob h 297 = some (.inl (1, 32, .inr (.inl (fun _ => 0))))) (o7888 : ob h 294 = some (.inl (1, 6000, .inr (.inl (fun _ => 0))))) (o7889 : ob h 295 = some (.inl (0, 20, .inl (fun _ => 0)))) (o7890 : ob h 296 = some (.inl (0, 20, .inl (fun _ => 0)))) : en_C l E M_X12_between 3 0 0 [.ref 277, .int (Int32.ofInt 3), .int (Int32.ofInt 1), .int a2, .int a0] h (pF none [294, 295, 296] h (fun h' => ob h' 294 = some (.inl (1, 6000, .inr (.inl (fun _ => 0)))) ∧ ob h' 295 = some (.inl (0, 20, .inl (fun _ => 0))) ∧ ob h' 296 = some (.inl (0, 20, .inl (fun _ => 0))) ∧ True)) := by
  refine en_mk m_X12_between rfl hl (Nat.le_of_ble_eq_true rfl) ?_
  refine x_aload_n (M := M_X12_between) dX12_between_0 rfl ?_
  refine x_bipush (M := M_X12_between) dX12_between_1 ?_
  refine x_iload_n (M := M_X12_between) dX12_between_3 rfl ?_
  refine x_if_eq (M := M_X12_between) (tgt := 16) dX12_between_4 (by decide) (fun q => absurd q (by decide +kernel)) (fun _ => ?_)
  refine x_aload_n (M := M_X12_between) dX12_between_7 rfl ?_
  refine x_getf (M := M_X12_between) (ci := 15) (C := RX12) (T := TX12) (N := 135) (ty := tyX12) cl15 dX12_between_8 o7886 39 (by decide) t_2430 (v := .ref 297) rfl ?_
  refine x_iload_n (M := M_X12_between) dX12_between_11 rfl ?_
  refine x_lald (M := M_X12_between) dX12_between_12 o7887 (vp_in_s (by omega) (by omega)) ?_
  refine x_topl (M := M_X12_between) (y := (Int64.ofInt 0)) rfl ?_
  refine x_goto (M := M_X12_between) (tgt := 22) dX12_between_13 (by decide) ?_
  refine x_norm (M := M_X12_between) (st' := [.long (Int64.ofInt 0), .int (Int32.ofInt 18), .ref 277]) rfl (v_cons (vi_cons (by decide +kernel : ((Int8.ofInt 18).toInt32) = (Int32.ofInt 18)) rfl)) rfl rfl rfl ?_
  refine y_callVR (M := M_X12_between) (M' := M_X12_load) rfl rfl dX12_between_22 m_X12_load t_3165 t_3167 s_212 (q7538 hl o7886 o7888 o7889 o7890) rfl rfl o7886 rfl (Nat.le_of_ble_eq_true rfl) (Nat.le_of_ble_eq_true rfl) (Nat.le_of_ble_eq_true rfl) (Nat.le_of_ble_eq_true rfl) (fun h7891 f7892 w7893 => ?_)
  obtain ⟨o7894, o7895, o7896, -⟩ := w7893
  refine x_aload_n (M := M_X12_between) dX12_between_25 rfl ?_
  refine x_bipush (M := M_X12_between) dX12_between_26 ?_
  refine x_iload_n (M := M_X12_between) dX12_between_28 rfl ?_
  refine x_if_eq (M := M_X12_between) (tgt := 42) dX12_between_29 (by decide) (fun q => absurd q (by decide +kernel)) (fun _ => ?_)
  refine x_aload_n (M := M_X12_between) dX12_between_32 rfl ?_
  have o7897 := (f7892 277 _ (by decide) o7886)
  refine x_getf (M := M_X12_between) (ci := 15) (C := RX12) (T := TX12) (N := 135) (ty := tyX12) cl15 dX12_between_33 o7897 39 (by decide) t_2430 (v := .ref 297) rfl ?_
  refine x_iload (M := M_X12_between) dX12_between_36 rfl ?_
  have o7898 := (f7892 297 _ (by decide) o7887)
  refine x_lald (M := M_X12_between) dX12_between_38 o7898 (vp_in_s (by omega) (by omega)) ?_
  refine x_topl (M := M_X12_between) (y := (Int64.ofInt 0)) rfl ?_
  refine x_goto (M := M_X12_between) (tgt := 49) dX12_between_39 (by decide) ?_
  refine x_norm (M := M_X12_between) (st' := [.long (Int64.ofInt 0), .int (Int32.ofInt 19), .ref 277]) rfl (v_cons (vi_cons (by decide +kernel : ((Int8.ofInt 19).toInt32) = (Int32.ofInt 19)) rfl)) rfl rfl rfl ?_
  refine y_callVR (M := M_X12_between) (M' := M_X12_load) rfl rfl dX12_between_49 m_X12_load t_3165 t_3167 s_212 (q7615 hl o7897 o7894 o7895 o7896) rfl rfl o7897 rfl (Nat.le_of_ble_eq_true rfl) (Nat.le_of_ble_eq_true rfl) (Nat.le_of_ble_eq_true rfl) (Nat.le_of_ble_eq_true rfl) (fun h7899 f7900 w7901 => ?_)
  obtain ⟨o7902, o7903, o7904, -⟩ := w7901
  refine x_aload_n (M := M_X12_between) dX12_between_52 rfl ?_
  refine x_iload_n (M := M_X12_between) dX12_between_53 rfl ?_
  refine x_bipush (M := M_X12_between) dX12_between_54 ?_
  refine x_bipush (M := M_X12_between) dX12_between_56 ?_
  refine x_iconst (M := M_X12_between) dX12_between_58 ?_
  refine x_norm (M := M_X12_between) (st' := [.int (Int32.ofInt 1), .int (Int32.ofInt 19), .int (Int32.ofInt 18), .int (Int32.ofInt 3), .ref 277]) rfl (v_cons (vi_cons (by decide +kernel : ((Int8.ofInt 19).toInt32) = (Int32.ofInt 19)) (vi_cons (by decide +kernel : ((Int8.ofInt 18).toInt32) = (Int32.ofInt 18)) rfl))) rfl rfl rfl ?_
  have o7960 := (f7900 277 _ (by decide) o7897)
  refine y_callVR (M := M_X12_between) (M' := M_X12_add) rfl rfl dX12_between_59 m_X12_add t_3174 t_3176 s_214 (q7959 hl o7960 o7904 o7903 o7902) rfl rfl o7960 rfl (Nat.le_of_ble_eq_true rfl) (Nat.le_of_ble_eq_true rfl) (Nat.le_of_ble_eq_true rfl) (Nat.le_of_ble_eq_true rfl) (fun h7961 f7962 w7963 => ?_)
  obtain ⟨o7964, o7965, o7966, -⟩ := w7963
  exact x_vret (M := M_X12_between) dX12_between_62 rfl ⟨rfl, (fr_tr f7962 (by decide) (fr_tr f7900 (by decide) (fr_tr f7892 (by decide) fr_rf))), ⟨o7964, o7965, o7966, trivial⟩⟩ (Nat.le_of_ble_eq_true rfl) (Nat.le_of_ble_eq_true rfl)
set_option maxRecDepth 10000 in
theorem q7996 {l : Launch} {E : EE} (hl : l.stackTraces = false) {h : HP} {dg : Int32} (o7989 : ob h 277 = some (.inr (15, ((RB dg).set 0 (.int (Int32.ofInt 0)))))) (o7990 : ob h 295 = some (.inl (0, 20, .inl (fun _ => 0)))) (o7991 : ob h 296 = some (.inl (0, 20, .inl (fun _ => 0)))) : en_C l E M_X12_trim 0 0 0 [.ref 277, .int (Int32.ofInt 4)] h (pF none [296] h (fun h' => ob h' 296 = some (.inl (0, 20, .inl (fun _ => 0))) ∧ True)) := by
  refine en_mk m_X12_trim rfl hl (Nat.le_of_ble_eq_true rfl) ?_
  refine x_aload_n (M := M_X12_trim) dX12_trim_0 rfl ?_
  refine x_getf (M := M_X12_trim) (ci := 15) (C := RX12) (T := TX12) (N := 135) (ty := tyX12) cl15 dX12_trim_1 o7989 37 (by decide) t_2428 (v := .ref 295) rfl ?_
  refine x_iload_n (M := M_X12_trim) dX12_trim_4 rfl ?_
  refine x_iald (M := M_X12_trim) dX12_trim_5 o7990 (vp_inD (by decide +kernel)) ?_
  refine x_top (M := M_X12_trim) (y := (Int32.ofInt 0)) (by decide +kernel) ?_
  refine x_if_le (M := M_X12_trim) (tgt := 46) dX12_trim_6 (by decide) (fun _ => ?_) (fun q => absurd q (by decide +kernel))
  refine x_aload_n (M := M_X12_trim) dX12_trim_46 rfl ?_
  refine x_getf (M := M_X12_trim) (ci := 15) (C := RX12) (T := TX12) (N := 135) (ty := tyX12) cl15 dX12_trim_47 o7989 37 (by decide) t_2428 (v := .ref 295) rfl ?_
  refine x_iload_n (M := M_X12_trim) dX12_trim_50 rfl ?_
  refine x_iald (M := M_X12_trim) dX12_trim_51 o7990 (vp_inD (by decide +kernel)) ?_
  refine x_top (M := M_X12_trim) (y := (Int32.ofInt 0)) (by decide +kernel) ?_
  refine x_if_ne (M := M_X12_trim) (tgt := 62) dX12_trim_52 (by decide) (fun q => absurd q (by decide +kernel)) (fun _ => ?_)
  refine x_aload_n (M := M_X12_trim) dX12_trim_55 rfl ?_
  refine x_getf (M := M_X12_trim) (ci := 15) (C := RX12) (T := TX12) (N := 135) (ty := tyX12) cl15 dX12_trim_56 o7989 38 (by decide) t_2429 (v := .ref 296) rfl ?_
  refine x_iload_n (M := M_X12_trim) dX12_trim_59 rfl ?_
  refine x_iconst (M := M_X12_trim) dX12_trim_60 ?_
  refine y_iast (M := M_X12_trim) (k := 4) dX12_trim_61 o7991 (vp_inD (by decide +kernel)) (by decide +kernel) (fun h7992 w7993 f7994 => ?_)
  have w7995 : ob h7992 296 = some (.inl (0, 20, .inl (fun _ => 0))) := by rw [w7993, up_z (k := 4)]
  exact x_vret (M := M_X12_trim) dX12_trim_62 rfl ⟨rfl, (fr_tr f7994 (by decide) fr_rf), ⟨w7995, trivial⟩⟩ (Nat.le_of_ble_eq_true rfl) (Nat.le_of_ble_eq_true rfl)
set_option maxRecDepth 10000 in
theorem q8004 {l : Launch} {E : EE} (hl : l.stackTraces = false) {h : HP} {dg : Int32} (o7976 : ob h 277 = some (.inr (15, ((RB dg).set 0 (.int (Int32.ofInt 0)))))) (o7977 : ob h 295 = some (.inl (0, 20, .inl (fun _ => 0)))) (o7983 : ob h 296 = some (.inl (0, 20, .inl (fun _ => 0)))) : en_C l E M_X12_times 1 0 0 [.ref 277, .int (Int32.ofInt 4), .int (Int32.ofInt 0), .int (Int32.ofInt 1)] h (pF none [295, 296] h (fun h' => ob h' 295 = some (.inl (0, 20, .inl (fun _ => 0))) ∧ ob h' 296 = some (.inl (0, 20, .inl (fun _ => 0))) ∧ True)) := by
  refine en_mk m_X12_times rfl hl (Nat.le_of_ble_eq_true rfl) ?_
  refine x_aload_n (M := M_X12_times) dX12_times_0 rfl ?_
  refine x_getf (M := M_X12_times) (ci := 15) (C := RX12) (T := TX12) (N := 135) (ty := tyX12) cl15 dX12_times_1 o7976 37 (by decide) t_2428 (v := .ref 295) rfl ?_
  refine x_iload_n (M := M_X12_times) dX12_times_4 rfl ?_
  refine x_iald (M := M_X12_times) dX12_times_5 o7977 (vp_inD (by decide +kernel)) ?_
  refine x_top (M := M_X12_times) (y := (Int32.ofInt 0)) (by decide +kernel) ?_
  refine x_aload_n (M := M_X12_times) dX12_times_6 rfl ?_
  refine x_getf (M := M_X12_times) (ci := 15) (C := RX12) (T := TX12) (N := 135) (ty := tyX12) cl15 dX12_times_7 o7976 37 (by decide) t_2428 (v := .ref 295) rfl ?_
  refine x_iload_n (M := M_X12_times) dX12_times_10 rfl ?_
  refine x_iald (M := M_X12_times) dX12_times_11 o7977 (vp_inD (by decide +kernel)) ?_
  refine x_top (M := M_X12_times) (y := (Int32.ofInt 0)) (by decide +kernel) ?_
  refine x_iadd (M := M_X12_times) dX12_times_12 ?_
  refine x_top (M := M_X12_times) (y := (Int32.ofInt 0)) (by decide +kernel) ?_
  refine x_istore (M := M_X12_times) dX12_times_13 (Nat.le_of_ble_eq_true rfl) rfl ?_
  refine x_iconst (M := M_X12_times) dX12_times_15 ?_
  refine x_istore (M := M_X12_times) dX12_times_16 (Nat.le_of_ble_eq_true rfl) rfl ?_
  refine x_iload (M := M_X12_times) dX12_times_18 rfl ?_
  refine x_iload (M := M_X12_times) dX12_times_20 rfl ?_
  refine x_icmp_ge (M := M_X12_times) (tgt := 45) dX12_times_22 (by decide) (fun _ => ?_) (fun q => absurd q (by decide +kernel))
  refine x_iconst (M := M_X12_times) dX12_times_45 ?_
  refine x_istore (M := M_X12_times) dX12_times_46 (Nat.le_of_ble_eq_true rfl) rfl ?_
  refine x_iload (M := M_X12_times) dX12_times_48 rfl ?_
  refine x_aload_n (M := M_X12_times) dX12_times_50 rfl ?_
  refine x_getf (M := M_X12_times) (ci := 15) (C := RX12) (T := TX12) (N := 135) (ty := tyX12) cl15 dX12_times_51 o7976 37 (by decide) t_2428 (v := .ref 295) rfl ?_
  refine x_iload_n (M := M_X12_times) dX12_times_54 rfl ?_
  refine x_iald (M := M_X12_times) dX12_times_55 o7977 (vp_inD (by decide +kernel)) ?_
  refine x_top (M := M_X12_times) (y := (Int32.ofInt 0)) (by decide +kernel) ?_
  refine x_icmp_ge (M := M_X12_times) (tgt := 188) dX12_times_56 (by decide) (fun _ => ?_) (fun q => absurd q (by decide +kernel))
  refine x_aload_n (M := M_X12_times) dX12_times_188 rfl ?_
  refine x_getf (M := M_X12_times) (ci := 15) (C := RX12) (T := TX12) (N := 135) (ty := tyX12) cl15 dX12_times_189 o7976 37 (by decide) t_2428 (v := .ref 295) rfl ?_
  refine x_iload_n (M := M_X12_times) dX12_times_192 rfl ?_
  refine x_iload (M := M_X12_times) dX12_times_193 rfl ?_
  refine y_iast (M := M_X12_times) (k := 4) dX12_times_195 o7977 (vp_inD (by decide +kernel)) (by decide +kernel) (fun h7978 w7979 f7980 => ?_)
  have w7981 : ob h7978 295 = some (.inl (0, 20, .inl (fun _ => 0))) := by rw [w7979, up_z (k := 4)]
  refine x_aload_n (M := M_X12_times) dX12_times_196 rfl ?_
  have o7982 := (f7980 277 _ (by decide) o7976)
  refine x_getf (M := M_X12_times) (ci := 15) (C := RX12) (T := TX12) (N := 135) (ty := tyX12) cl15 dX12_times_197 o7982 38 (by decide) t_2429 (v := .ref 296) rfl ?_
  refine x_iload_n (M := M_X12_times) dX12_times_200 rfl ?_
  refine x_aload_n (M := M_X12_times) dX12_times_201 rfl ?_
  refine x_getf (M := M_X12_times) (ci := 15) (C := RX12) (T := TX12) (N := 135) (ty := tyX12) cl15 dX12_times_202 o7982 38 (by decide) t_2429 (v := .ref 296) rfl ?_
  refine x_iload_n (M := M_X12_times) dX12_times_205 rfl ?_
  have o7984 := (f7980 296 _ (by decide) o7983)
  refine x_iald (M := M_X12_times) dX12_times_206 o7984 (vp_inD (by decide +kernel)) ?_
  refine x_top (M := M_X12_times) (y := (Int32.ofInt 0)) (by decide +kernel) ?_
  refine x_aload_n (M := M_X12_times) dX12_times_207 rfl ?_
  refine x_getf (M := M_X12_times) (ci := 15) (C := RX12) (T := TX12) (N := 135) (ty := tyX12) cl15 dX12_times_208 o7982 38 (by decide) t_2429 (v := .ref 296) rfl ?_
  refine x_iload_n (M := M_X12_times) dX12_times_211 rfl ?_
  refine x_iald (M := M_X12_times) dX12_times_212 o7984 (vp_inD (by decide +kernel)) ?_
  refine x_top (M := M_X12_times) (y := (Int32.ofInt 0)) (by decide +kernel) ?_
  refine x_imul (M := M_X12_times) dX12_times_213 ?_
  refine x_norm (M := M_X12_times) (st' := [.int (Int32.ofInt 0), .int (Int32.ofInt 4), .ref 296]) rfl (vi_cons (by decide +kernel : ((Int32.ofInt 0) * (Int32.ofInt 0)) = (Int32.ofInt 0)) rfl) rfl rfl rfl ?_
  refine y_iast (M := M_X12_times) (k := 4) dX12_times_214 o7984 (vp_inD (by decide +kernel)) (by decide +kernel) (fun h7985 w7986 f7987 => ?_)
  have w7988 : ob h7985 296 = some (.inl (0, 20, .inl (fun _ => 0))) := by rw [w7986, up_z (k := 4)]
  refine x_aload_n (M := M_X12_times) dX12_times_215 rfl ?_
  refine x_iload_n (M := M_X12_times) dX12_times_216 rfl ?_
  have o7997 := (f7987 277 _ (by decide) o7982)
  have o7998 := (f7987 295 _ (by decide) w7981)
  refine y_callVR (M := M_X12_times) (M' := M_X12_trim) rfl rfl dX12_times_217 m_X12_trim t_3170 t_3172 s_213 (q7996 hl o7997 o7998 w7988) rfl rfl o7997 rfl (Nat.le_of_ble_eq_true rfl) (Nat.le_of_ble_eq_true rfl) (Nat.le_of_ble_eq_true rfl) (Nat.le_of_ble_eq_true rfl) (fun h7999 f8000 w8001 => ?_)
  obtain ⟨o8002, -⟩ := w8001
  have o8003 := (f8000 295 _ (by decide) o7998)
  exact x_vret (M := M_X12_times) dX12_times_220 rfl ⟨rfl, (fr_tr f8000 (by decide) (fr_tr f7987 (by decide) (fr_tr f7980 (by decide) fr_rf))), ⟨o8003, o8002, trivial⟩⟩ (Nat.le_of_ble_eq_true rfl) (Nat.le_of_ble_eq_true rfl)
set_option maxRecDepth 10000 in
theorem q8031 {l : Launch} {E : EE} (hl : l.stackTraces = false) {h : HP} {dg : Int32} (o8024 : ob h 277 = some (.inr (15, ((RB dg).set 0 (.int (Int32.ofInt 0)))))) (o8025 : ob h 295 = some (.inl (0, 20, .inl (fun _ => 0)))) (o8026 : ob h 296 = some (.inl (0, 20, .inl (fun _ => 0)))) : en_C l E M_X12_trim 0 0 0 [.ref 277, .int (Int32.ofInt 5)] h (pF none [296] h (fun h' => ob h' 296 = some (.inl (0, 20, .inl (fun _ => 0))) ∧ True)) := by
  refine en_mk m_X12_trim rfl hl (Nat.le_of_ble_eq_true rfl) ?_
  refine x_aload_n (M := M_X12_trim) dX12_trim_0 rfl ?_
  refine x_getf (M := M_X12_trim) (ci := 15) (C := RX12) (T := TX12) (N := 135) (ty := tyX12) cl15 dX12_trim_1 o8024 37 (by decide) t_2428 (v := .ref 295) rfl ?_
  refine x_iload_n (M := M_X12_trim) dX12_trim_4 rfl ?_
  refine x_iald (M := M_X12_trim) dX12_trim_5 o8025 (vp_inD (by decide +kernel)) ?_
  refine x_top (M := M_X12_trim) (y := (Int32.ofInt 0)) (by decide +kernel) ?_
  refine x_if_le (M := M_X12_trim) (tgt := 46) dX12_trim_6 (by decide) (fun _ => ?_) (fun q => absurd q (by decide +kernel))
  refine x_aload_n (M := M_X12_trim) dX12_trim_46 rfl ?_
  refine x_getf (M := M_X12_trim) (ci := 15) (C := RX12) (T := TX12) (N := 135) (ty := tyX12) cl15 dX12_trim_47 o8024 37 (by decide) t_2428 (v := .ref 295) rfl ?_
  refine x_iload_n (M := M_X12_trim) dX12_trim_50 rfl ?_
  refine x_iald (M := M_X12_trim) dX12_trim_51 o8025 (vp_inD (by decide +kernel)) ?_
  refine x_top (M := M_X12_trim) (y := (Int32.ofInt 0)) (by decide +kernel) ?_
  refine x_if_ne (M := M_X12_trim) (tgt := 62) dX12_trim_52 (by decide) (fun q => absurd q (by decide +kernel)) (fun _ => ?_)
  refine x_aload_n (M := M_X12_trim) dX12_trim_55 rfl ?_
  refine x_getf (M := M_X12_trim) (ci := 15) (C := RX12) (T := TX12) (N := 135) (ty := tyX12) cl15 dX12_trim_56 o8024 38 (by decide) t_2429 (v := .ref 296) rfl ?_
  refine x_iload_n (M := M_X12_trim) dX12_trim_59 rfl ?_
  refine x_iconst (M := M_X12_trim) dX12_trim_60 ?_
  refine y_iast (M := M_X12_trim) (k := 5) dX12_trim_61 o8026 (vp_inD (by decide +kernel)) (by decide +kernel) (fun h8027 w8028 f8029 => ?_)
  have w8030 : ob h8027 296 = some (.inl (0, 20, .inl (fun _ => 0))) := by rw [w8028, up_z (k := 5)]
  exact x_vret (M := M_X12_trim) dX12_trim_62 rfl ⟨rfl, (fr_tr f8029 (by decide) fr_rf), ⟨w8030, trivial⟩⟩ (Nat.le_of_ble_eq_true rfl) (Nat.le_of_ble_eq_true rfl)
set_option maxRecDepth 10000 in
theorem q8039 {l : Launch} {E : EE} (hl : l.stackTraces = false) {h : HP} {dg : Int32} (o8011 : ob h 277 = some (.inr (15, ((RB dg).set 0 (.int (Int32.ofInt 0)))))) (o8012 : ob h 295 = some (.inl (0, 20, .inl (fun _ => 0)))) (o8018 : ob h 296 = some (.inl (0, 20, .inl (fun _ => 0)))) : en_C l E M_X12_times 1 0 0 [.ref 277, .int (Int32.ofInt 5), .int (Int32.ofInt 2), .int (Int32.ofInt 3)] h (pF none [295, 296] h (fun h' => ob h' 295 = some (.inl (0, 20, .inl (fun _ => 0))) ∧ ob h' 296 = some (.inl (0, 20, .inl (fun _ => 0))) ∧ True)) := by
  refine en_mk m_X12_times rfl hl (Nat.le_of_ble_eq_true rfl) ?_
  refine x_aload_n (M := M_X12_times) dX12_times_0 rfl ?_
  refine x_getf (M := M_X12_times) (ci := 15) (C := RX12) (T := TX12) (N := 135) (ty := tyX12) cl15 dX12_times_1 o8011 37 (by decide) t_2428 (v := .ref 295) rfl ?_
  refine x_iload_n (M := M_X12_times) dX12_times_4 rfl ?_
  refine x_iald (M := M_X12_times) dX12_times_5 o8012 (vp_inD (by decide +kernel)) ?_
  refine x_top (M := M_X12_times) (y := (Int32.ofInt 0)) (by decide +kernel) ?_
  refine x_aload_n (M := M_X12_times) dX12_times_6 rfl ?_
  refine x_getf (M := M_X12_times) (ci := 15) (C := RX12) (T := TX12) (N := 135) (ty := tyX12) cl15 dX12_times_7 o8011 37 (by decide) t_2428 (v := .ref 295) rfl ?_
  refine x_iload_n (M := M_X12_times) dX12_times_10 rfl ?_
  refine x_iald (M := M_X12_times) dX12_times_11 o8012 (vp_inD (by decide +kernel)) ?_
  refine x_top (M := M_X12_times) (y := (Int32.ofInt 0)) (by decide +kernel) ?_
  refine x_iadd (M := M_X12_times) dX12_times_12 ?_
  refine x_top (M := M_X12_times) (y := (Int32.ofInt 0)) (by decide +kernel) ?_
  refine x_istore (M := M_X12_times) dX12_times_13 (Nat.le_of_ble_eq_true rfl) rfl ?_
  refine x_iconst (M := M_X12_times) dX12_times_15 ?_
  refine x_istore (M := M_X12_times) dX12_times_16 (Nat.le_of_ble_eq_true rfl) rfl ?_
  refine x_iload (M := M_X12_times) dX12_times_18 rfl ?_
  refine x_iload (M := M_X12_times) dX12_times_20 rfl ?_
  refine x_icmp_ge (M := M_X12_times) (tgt := 45) dX12_times_22 (by decide) (fun _ => ?_) (fun q => absurd q (by decide +kernel))
  refine x_iconst (M := M_X12_times) dX12_times_45 ?_
  refine x_istore (M := M_X12_times) dX12_times_46 (Nat.le_of_ble_eq_true rfl) rfl ?_
  refine x_iload (M := M_X12_times) dX12_times_48 rfl ?_
  refine x_aload_n (M := M_X12_times) dX12_times_50 rfl ?_
  refine x_getf (M := M_X12_times) (ci := 15) (C := RX12) (T := TX12) (N := 135) (ty := tyX12) cl15 dX12_times_51 o8011 37 (by decide) t_2428 (v := .ref 295) rfl ?_
  refine x_iload_n (M := M_X12_times) dX12_times_54 rfl ?_
  refine x_iald (M := M_X12_times) dX12_times_55 o8012 (vp_inD (by decide +kernel)) ?_
  refine x_top (M := M_X12_times) (y := (Int32.ofInt 0)) (by decide +kernel) ?_
  refine x_icmp_ge (M := M_X12_times) (tgt := 188) dX12_times_56 (by decide) (fun _ => ?_) (fun q => absurd q (by decide +kernel))
  refine x_aload_n (M := M_X12_times) dX12_times_188 rfl ?_
  refine x_getf (M := M_X12_times) (ci := 15) (C := RX12) (T := TX12) (N := 135) (ty := tyX12) cl15 dX12_times_189 o8011 37 (by decide) t_2428 (v := .ref 295) rfl ?_
  refine x_iload_n (M := M_X12_times) dX12_times_192 rfl ?_
  refine x_iload (M := M_X12_times) dX12_times_193 rfl ?_
  refine y_iast (M := M_X12_times) (k := 5) dX12_times_195 o8012 (vp_inD (by decide +kernel)) (by decide +kernel) (fun h8013 w8014 f8015 => ?_)
  have w8016 : ob h8013 295 = some (.inl (0, 20, .inl (fun _ => 0))) := by rw [w8014, up_z (k := 5)]
  refine x_aload_n (M := M_X12_times) dX12_times_196 rfl ?_
  have o8017 := (f8015 277 _ (by decide) o8011)
  refine x_getf (M := M_X12_times) (ci := 15) (C := RX12) (T := TX12) (N := 135) (ty := tyX12) cl15 dX12_times_197 o8017 38 (by decide) t_2429 (v := .ref 296) rfl ?_
  refine x_iload_n (M := M_X12_times) dX12_times_200 rfl ?_
  refine x_aload_n (M := M_X12_times) dX12_times_201 rfl ?_
  refine x_getf (M := M_X12_times) (ci := 15) (C := RX12) (T := TX12) (N := 135) (ty := tyX12) cl15 dX12_times_202 o8017 38 (by decide) t_2429 (v := .ref 296) rfl ?_
  refine x_iload_n (M := M_X12_times) dX12_times_205 rfl ?_
  have o8019 := (f8015 296 _ (by decide) o8018)
  refine x_iald (M := M_X12_times) dX12_times_206 o8019 (vp_inD (by decide +kernel)) ?_
  refine x_top (M := M_X12_times) (y := (Int32.ofInt 0)) (by decide +kernel) ?_
  refine x_aload_n (M := M_X12_times) dX12_times_207 rfl ?_
  refine x_getf (M := M_X12_times) (ci := 15) (C := RX12) (T := TX12) (N := 135) (ty := tyX12) cl15 dX12_times_208 o8017 38 (by decide) t_2429 (v := .ref 296) rfl ?_
  refine x_iload_n (M := M_X12_times) dX12_times_211 rfl ?_
  refine x_iald (M := M_X12_times) dX12_times_212 o8019 (vp_inD (by decide +kernel)) ?_
  refine x_top (M := M_X12_times) (y := (Int32.ofInt 0)) (by decide +kernel) ?_
  refine x_imul (M := M_X12_times) dX12_times_213 ?_
  refine x_norm (M := M_X12_times) (st' := [.int (Int32.ofInt 0), .int (Int32.ofInt 5), .ref 296]) rfl (vi_cons (by decide +kernel : ((Int32.ofInt 0) * (Int32.ofInt 0)) = (Int32.ofInt 0)) rfl) rfl rfl rfl ?_
  refine y_iast (M := M_X12_times) (k := 5) dX12_times_214 o8019 (vp_inD (by decide +kernel)) (by decide +kernel) (fun h8020 w8021 f8022 => ?_)
  have w8023 : ob h8020 296 = some (.inl (0, 20, .inl (fun _ => 0))) := by rw [w8021, up_z (k := 5)]
  refine x_aload_n (M := M_X12_times) dX12_times_215 rfl ?_
  refine x_iload_n (M := M_X12_times) dX12_times_216 rfl ?_
  have o8032 := (f8022 277 _ (by decide) o8017)
  have o8033 := (f8022 295 _ (by decide) w8016)
  refine y_callVR (M := M_X12_times) (M' := M_X12_trim) rfl rfl dX12_times_217 m_X12_trim t_3170 t_3172 s_213 (q8031 hl o8032 o8033 w8023) rfl rfl o8032 rfl (Nat.le_of_ble_eq_true rfl) (Nat.le_of_ble_eq_true rfl) (Nat.le_of_ble_eq_true rfl) (Nat.le_of_ble_eq_true rfl) (fun h8034 f8035 w8036 => ?_)
  obtain ⟨o8037, -⟩ := w8036
  have o8038 := (f8035 295 _ (by decide) o8033)
  exact x_vret (M := M_X12_times) dX12_times_220 rfl ⟨rfl, (fr_tr f8035 (by decide) (fr_tr f8022 (by decide) (fr_tr f8015 (by decide) fr_rf))), ⟨o8038, o8037, trivial⟩⟩ (Nat.le_of_ble_eq_true rfl) (Nat.le_of_ble_eq_true rfl)
set_option maxRecDepth 10000 in
theorem q8052 {l : Launch} {E : EE} (hl : l.stackTraces = false) {h : HP} {dg : Int32} (o8050 : ob h 277 = some (.inr (15, ((RB dg).set 0 (.int (Int32.ofInt 0)))))) (o8051 : ob h 295 = some (.inl (0, 20, .inl (fun _ => 0)))) : en_C l E M_X12_limb 0 0 0 [.ref 277, .int (Int32.ofInt 4), .int (Int32.ofInt 0)] h (pR (some (.long (Int64.ofInt 0))) h) := by
  refine en_mk m_X12_limb rfl hl (Nat.le_of_ble_eq_true rfl) ?_
  refine x_iload_n (M := M_X12_limb) dX12_limb_0 rfl ?_
  refine x_aload_n (M := M_X12_limb) dX12_limb_1 rfl ?_
  refine x_getf (M := M_X12_limb) (ci := 15) (C := RX12) (T := TX12) (N := 135) (ty := tyX12) cl15 dX12_limb_2 o8050 37 (by decide) t_2428 (v := .ref 295) rfl ?_
  refine x_iload_n (M := M_X12_limb) dX12_limb_5 rfl ?_
  refine x_iald (M := M_X12_limb) dX12_limb_6 o8051 (vp_inD (by decide +kernel)) ?_
  refine x_top (M := M_X12_limb) (y := (Int32.ofInt 0)) (by decide +kernel) ?_
  refine x_icmp_ge (M := M_X12_limb) (tgt := 25) dX12_limb_7 (by decide) (fun _ => ?_) (fun q => absurd q (by decide +kernel))
  refine x_lconst (M := M_X12_limb) dX12_limb_25 ?_
  refine x_topl (M := M_X12_limb) (y := (Int64.ofInt 0)) (by decide +kernel) ?_
  exact x_lret (M := M_X12_limb) dX12_limb_26 rfl ⟨rfl, rfl⟩ (Nat.le_of_ble_eq_true rfl) (Nat.le_of_ble_eq_true rfl)
set_option maxRecDepth 10000 in
theorem q8055 {l : Launch} {E : EE} (hl : l.stackTraces = false) {h : HP} {dg : Int32} (o8053 : ob h 277 = some (.inr (15, ((RB dg).set 0 (.int (Int32.ofInt 0)))))) (o8054 : ob h 295 = some (.inl (0, 20, .inl (fun _ => 0)))) : en_C l E M_X12_limb 0 0 0 [.ref 277, .int (Int32.ofInt 5), .int (Int32.ofInt 0)] h (pR (some (.long (Int64.ofInt 0))) h) := by
  refine en_mk m_X12_limb rfl hl (Nat.le_of_ble_eq_true rfl) ?_
  refine x_iload_n (M := M_X12_limb) dX12_limb_0 rfl ?_
  refine x_aload_n (M := M_X12_limb) dX12_limb_1 rfl ?_
  refine x_getf (M := M_X12_limb) (ci := 15) (C := RX12) (T := TX12) (N := 135) (ty := tyX12) cl15 dX12_limb_2 o8053 37 (by decide) t_2428 (v := .ref 295) rfl ?_
  refine x_iload_n (M := M_X12_limb) dX12_limb_5 rfl ?_
  refine x_iald (M := M_X12_limb) dX12_limb_6 o8054 (vp_inD (by decide +kernel)) ?_
  refine x_top (M := M_X12_limb) (y := (Int32.ofInt 0)) (by decide +kernel) ?_
  refine x_icmp_ge (M := M_X12_limb) (tgt := 25) dX12_limb_7 (by decide) (fun _ => ?_) (fun q => absurd q (by decide +kernel))
  refine x_lconst (M := M_X12_limb) dX12_limb_25 ?_
  refine x_topl (M := M_X12_limb) (y := (Int64.ofInt 0)) (by decide +kernel) ?_
  exact x_lret (M := M_X12_limb) dX12_limb_26 rfl ⟨rfl, rfl⟩ (Nat.le_of_ble_eq_true rfl) (Nat.le_of_ble_eq_true rfl)
set_option maxRecDepth 10000 in
theorem q8067 {l : Launch} {E : EE} (hl : l.stackTraces = false) {h : HP} {dg : Int32} (o8048 : ob h 277 = some (.inr (15, ((RB dg).set 0 (.int (Int32.ofInt 0)))))) (o8049 : ob h 295 = some (.inl (0, 20, .inl (fun _ => 0)))) (o8056 : ob h 294 = some (.inl (1, 6000, .inr (.inl (fun _ => 0))))) : en_C l E M_X12_addSizes 1 0 0 [.ref 277, .int (Int32.ofInt 6), .int (Int32.ofInt 4), .int (Int32.ofInt 5)] h (pF none [294, 295] h (fun h' => ob h' 294 = some (.inl (1, 6000, .inr (.inl (fun _ => 0)))) ∧ ob h' 295 = some (.inl (0, 20, .inl (upd (fun _ => 0) 6 (Int32.ofInt 1)))) ∧ True)) := by
  refine en_mk m_X12_addSizes rfl hl (Nat.le_of_ble_eq_true rfl) ?_
  refine x_aload_n (M := M_X12_addSizes) dX12_addSizes_0 rfl ?_
  refine x_getf (M := M_X12_addSizes) (ci := 15) (C := RX12) (T := TX12) (N := 135) (ty := tyX12) cl15 dX12_addSizes_1 o8048 37 (by decide) t_2428 (v := .ref 295) rfl ?_
  refine x_iload_n (M := M_X12_addSizes) dX12_addSizes_4 rfl ?_
  refine x_iald (M := M_X12_addSizes) dX12_addSizes_5 o8049 (vp_inD (by decide +kernel)) ?_
  refine x_top (M := M_X12_addSizes) (y := (Int32.ofInt 0)) (by decide +kernel) ?_
  refine x_aload_n (M := M_X12_addSizes) dX12_addSizes_6 rfl ?_
  refine x_getf (M := M_X12_addSizes) (ci := 15) (C := RX12) (T := TX12) (N := 135) (ty := tyX12) cl15 dX12_addSizes_7 o8048 37 (by decide) t_2428 (v := .ref 295) rfl ?_
  refine x_iload_n (M := M_X12_addSizes) dX12_addSizes_10 rfl ?_
  refine x_iald (M := M_X12_addSizes) dX12_addSizes_11 o8049 (vp_inD (by decide +kernel)) ?_
  refine x_top (M := M_X12_addSizes) (y := (Int32.ofInt 0)) (by decide +kernel) ?_
  refine x_icmp_le (M := M_X12_addSizes) (tgt := 24) dX12_addSizes_12 (by decide) (fun _ => ?_) (fun q => absurd q (by decide +kernel))
  refine x_aload_n (M := M_X12_addSizes) dX12_addSizes_24 rfl ?_
  refine x_getf (M := M_X12_addSizes) (ci := 15) (C := RX12) (T := TX12) (N := 135) (ty := tyX12) cl15 dX12_addSizes_25 o8048 37 (by decide) t_2428 (v := .ref 295) rfl ?_
  refine x_iload_n (M := M_X12_addSizes) dX12_addSizes_28 rfl ?_
  refine x_iald (M := M_X12_addSizes) dX12_addSizes_29 o8049 (vp_inD (by decide +kernel)) ?_
  refine x_top (M := M_X12_addSizes) (y := (Int32.ofInt 0)) (by decide +kernel) ?_
  refine x_iconst (M := M_X12_addSizes) dX12_addSizes_30 ?_
  refine x_iadd (M := M_X12_addSizes) dX12_addSizes_31 ?_
  refine x_top (M := M_X12_addSizes) (y := (Int32.ofInt 1)) (by decide +kernel) ?_
  refine x_istore (M := M_X12_addSizes) dX12_addSizes_32 (Nat.le_of_ble_eq_true rfl) rfl ?_
  refine x_lconst (M := M_X12_addSizes) dX12_addSizes_34 ?_
  refine x_topl (M := M_X12_addSizes) (y := (Int64.ofInt 0)) (by decide +kernel) ?_
  refine x_lstore (M := M_X12_addSizes) dX12_addSizes_35 (Nat.le_of_ble_eq_true rfl) rfl ?_
  refine x_iconst (M := M_X12_addSizes) dX12_addSizes_37 ?_
  refine x_istore (M := M_X12_addSizes) dX12_addSizes_38 (Nat.le_of_ble_eq_true rfl) rfl ?_
  refine x_iload (M := M_X12_addSizes) dX12_addSizes_40 rfl ?_
  refine x_iload (M := M_X12_addSizes) dX12_addSizes_42 rfl ?_
  refine x_icmp_ge (M := M_X12_addSizes) (tgt := 99) dX12_addSizes_44 (by decide) (fun q => absurd q (by decide +kernel)) (fun _ => ?_)
  refine x_lload (M := M_X12_addSizes) dX12_addSizes_47 rfl ?_
  refine x_aload_n (M := M_X12_addSizes) dX12_addSizes_49 rfl ?_
  refine x_iload_n (M := M_X12_addSizes) dX12_addSizes_50 rfl ?_
  refine x_iload (M := M_X12_addSizes) dX12_addSizes_51 rfl ?_
  refine x_callVR (M := M_X12_addSizes) (M' := M_X12_limb) rfl rfl dX12_addSizes_53 m_X12_limb t_3182 t_3184 s_216 (q8052 hl o8048 o8049) rfl rfl o8048 rfl (Nat.le_of_ble_eq_true rfl) (Nat.le_of_ble_eq_true rfl) (Nat.le_of_ble_eq_true rfl) (Nat.le_of_ble_eq_true rfl) ?_
  refine x_aload_n (M := M_X12_addSizes) dX12_addSizes_56 rfl ?_
  refine x_iload_n (M := M_X12_addSizes) dX12_addSizes_57 rfl ?_
  refine x_iload (M := M_X12_addSizes) dX12_addSizes_58 rfl ?_
  refine x_callVR (M := M_X12_addSizes) (M' := M_X12_limb) rfl rfl dX12_addSizes_60 m_X12_limb t_3182 t_3184 s_216 (q8055 hl o8048 o8049) rfl rfl o8048 rfl (Nat.le_of_ble_eq_true rfl) (Nat.le_of_ble_eq_true rfl) (Nat.le_of_ble_eq_true rfl) (Nat.le_of_ble_eq_true rfl) ?_
  refine x_ladd (M := M_X12_addSizes) dX12_addSizes_63 ?_
  refine x_ladd (M := M_X12_addSizes) dX12_addSizes_64 ?_
  refine x_topl (M := M_X12_addSizes) (y := (Int64.ofInt 0)) (by decide +kernel) ?_
  refine x_lstore (M := M_X12_addSizes) dX12_addSizes_65 (Nat.le_of_ble_eq_true rfl) rfl ?_
  refine x_aload_n (M := M_X12_addSizes) dX12_addSizes_67 rfl ?_
  refine x_getf (M := M_X12_addSizes) (ci := 15) (C := RX12) (T := TX12) (N := 135) (ty := tyX12) cl15 dX12_addSizes_68 o8048 36 (by decide) t_2427 (v := .ref 294) rfl ?_
  refine x_sipush (M := M_X12_addSizes) dX12_addSizes_71 ?_
  refine x_iload_n (M := M_X12_addSizes) dX12_addSizes_74 rfl ?_
  refine x_imul (M := M_X12_addSizes) dX12_addSizes_75 ?_
  refine x_iload (M := M_X12_addSizes) dX12_addSizes_76 rfl ?_
  refine x_iadd (M := M_X12_addSizes) dX12_addSizes_78 ?_
  refine x_lload (M := M_X12_addSizes) dX12_addSizes_79 rfl ?_
  refine x_ldc2 (M := M_X12_addSizes) dX12_addSizes_81 t_3169 ?_
  refine x_land (M := M_X12_addSizes) dX12_addSizes_84 ?_
  refine x_norm (M := M_X12_addSizes) (st' := [.long (Int64.ofInt 0), .int (Int32.ofInt 1800), .ref 294]) rfl (vj_cons (by decide +kernel : ((Int64.ofInt 0) &&& (4294967295 : Int64)) = (Int64.ofInt 0)) (vi_cons (by decide +kernel : ((((Int16.ofInt 300).toInt32) * (Int32.ofInt 6)) + (Int32.ofInt 0)) = (Int32.ofInt 1800)) rfl)) rfl rfl rfl ?_
  refine y_last (M := M_X12_addSizes) (k := 1800) dX12_addSizes_85 o8056 (vp_inD (by decide +kernel)) (by decide +kernel) (fun h8057 w8058 f8059 => ?_)
  have w8060 : ob h8057 294 = some (.inl (1, 6000, .inr (.inl (fun _ => 0)))) := by rw [w8058, uq_z (k := 1800)]
  refine x_lload (M := M_X12_addSizes) dX12_addSizes_86 rfl ?_
  refine x_bipush (M := M_X12_addSizes) dX12_addSizes_88 ?_
  refine x_lushr (M := M_X12_addSizes) dX12_addSizes_90 ?_
  refine x_topl (M := M_X12_addSizes) (y := (Int64.ofInt 0)) (by decide +kernel) ?_
  refine x_lstore (M := M_X12_addSizes) dX12_addSizes_91 (Nat.le_of_ble_eq_true rfl) rfl ?_
  refine x_lvs (M := M_X12_addSizes) (lv' := [some (.ref 277), some (.int (Int32.ofInt 6)), some (.int (Int32.ofInt 4)), some (.int (Int32.ofInt 5)), some (.int (Int32.ofInt 1)), some (.long (Int64.ofInt 0)), none, some (.int (Int32.ofInt 0))]) rfl ?_
  refine x_iinc (M := M_X12_addSizes) dX12_addSizes_93 rfl (Nat.le_of_ble_eq_true rfl) rfl ?_
  refine x_lvs (M := M_X12_addSizes) (lv' := [some (.ref 277), some (.int (Int32.ofInt 6)), some (.int (Int32.ofInt 4)), some (.int (Int32.ofInt 5)), some (.int (Int32.ofInt 1)), some (.long (Int64.ofInt 0)), none, some (.int (Int32.ofInt 1))]) (by rw [(by decide +kernel : (Int32.ofInt 0) + Int32.ofInt 1 = (Int32.ofInt 1))] <;> rfl) ?_
  refine x_goto (M := M_X12_addSizes) (tgt := 40) dX12_addSizes_96 (by decide) ?_
  refine x_iload (M := M_X12_addSizes) dX12_addSizes_40 rfl ?_
  refine x_iload (M := M_X12_addSizes) dX12_addSizes_42 rfl ?_
  refine x_icmp_ge (M := M_X12_addSizes) (tgt := 99) dX12_addSizes_44 (by decide) (fun _ => ?_) (fun q => absurd q (by decide +kernel))
  refine x_aload_n (M := M_X12_addSizes) dX12_addSizes_99 rfl ?_
  have o8061 := (f8059 277 _ (by decide) o8048)
  refine x_getf (M := M_X12_addSizes) (ci := 15) (C := RX12) (T := TX12) (N := 135) (ty := tyX12) cl15 dX12_addSizes_100 o8061 37 (by decide) t_2428 (v := .ref 295) rfl ?_
  refine x_iload_n (M := M_X12_addSizes) dX12_addSizes_103 rfl ?_
  refine x_iload (M := M_X12_addSizes) dX12_addSizes_104 rfl ?_
  have o8062 := (f8059 295 _ (by decide) o8049)
  refine y_iast (M := M_X12_addSizes) (k := 6) dX12_addSizes_106 o8062 (vp_inD (by decide +kernel)) (by decide +kernel) (fun h8063 w8064 f8065 => ?_)
  have o8066 := (f8065 294 _ (by decide) w8060)
  exact x_vret (M := M_X12_addSizes) dX12_addSizes_107 rfl ⟨rfl, (fr_tr f8065 (by decide) (fr_tr f8059 (by decide) fr_rf)), ⟨o8066, w8064, trivial⟩⟩ (Nat.le_of_ble_eq_true rfl) (Nat.le_of_ble_eq_true rfl)
set_option maxRecDepth 10000 in
theorem q8096 {l : Launch} {E : EE} (hl : l.stackTraces = false) {h : HP} {dg : Int32} (o8081 : ob h 277 = some (.inr (15, ((RB dg).set 0 (.int (Int32.ofInt 0)))))) (o8082 : ob h 295 = some (.inl (0, 20, .inl (upd (fun _ => 0) 6 (Int32.ofInt 1))))) (o8083 : ob h 294 = some (.inl (1, 6000, .inr (.inl (fun _ => 0))))) (o8089 : ob h 296 = some (.inl (0, 20, .inl (fun _ => 0)))) : en_C l E M_X12_trim 0 0 0 [.ref 277, .int (Int32.ofInt 6)] h (pF none [295, 296] h (fun h' => ob h' 295 = some (.inl (0, 20, .inl (fun _ => 0))) ∧ ob h' 296 = some (.inl (0, 20, .inl (fun _ => 0))) ∧ True)) := by
  refine en_mk m_X12_trim rfl hl (Nat.le_of_ble_eq_true rfl) ?_
  refine x_aload_n (M := M_X12_trim) dX12_trim_0 rfl ?_
  refine x_getf (M := M_X12_trim) (ci := 15) (C := RX12) (T := TX12) (N := 135) (ty := tyX12) cl15 dX12_trim_1 o8081 37 (by decide) t_2428 (v := .ref 295) rfl ?_
  refine x_iload_n (M := M_X12_trim) dX12_trim_4 rfl ?_
  refine x_iald (M := M_X12_trim) dX12_trim_5 o8082 (vp_inD (by decide +kernel)) ?_
  refine x_top (M := M_X12_trim) (y := (Int32.ofInt 1)) (by decide +kernel) ?_
  refine x_if_le (M := M_X12_trim) (tgt := 46) dX12_trim_6 (by decide) (fun q => absurd q (by decide +kernel)) (fun _ => ?_)
  refine x_aload_n (M := M_X12_trim) dX12_trim_9 rfl ?_
  refine x_getf (M := M_X12_trim) (ci := 15) (C := RX12) (T := TX12) (N := 135) (ty := tyX12) cl15 dX12_trim_10 o8081 36 (by decide) t_2427 (v := .ref 294) rfl ?_
  refine x_sipush (M := M_X12_trim) dX12_trim_13 ?_
  refine x_iload_n (M := M_X12_trim) dX12_trim_16 rfl ?_
  refine x_imul (M := M_X12_trim) dX12_trim_17 ?_
  refine x_aload_n (M := M_X12_trim) dX12_trim_18 rfl ?_
  refine x_getf (M := M_X12_trim) (ci := 15) (C := RX12) (T := TX12) (N := 135) (ty := tyX12) cl15 dX12_trim_19 o8081 37 (by decide) t_2428 (v := .ref 295) rfl ?_
  refine x_iload_n (M := M_X12_trim) dX12_trim_22 rfl ?_
  refine x_iald (M := M_X12_trim) dX12_trim_23 o8082 (vp_inD (by decide +kernel)) ?_
  refine x_top (M := M_X12_trim) (y := (Int32.ofInt 1)) (by decide +kernel) ?_
  refine x_iadd (M := M_X12_trim) dX12_trim_24 ?_
  refine x_iconst (M := M_X12_trim) dX12_trim_25 ?_
  refine x_isub (M := M_X12_trim) dX12_trim_26 ?_
  refine x_lald (M := M_X12_trim) dX12_trim_27 o8083 (vp_inD (by decide +kernel)) ?_
  refine x_topl (M := M_X12_trim) (y := (Int64.ofInt 0)) (by decide +kernel) ?_
  refine x_lconst (M := M_X12_trim) dX12_trim_28 ?_
  refine x_lcmp (M := M_X12_trim) dX12_trim_29 ?_
  refine x_if_ne (M := M_X12_trim) (tgt := 46) dX12_trim_30 (by decide) (fun q => absurd q (by decide +kernel)) (fun _ => ?_)
  refine x_aload_n (M := M_X12_trim) dX12_trim_33 rfl ?_
  refine x_getf (M := M_X12_trim) (ci := 15) (C := RX12) (T := TX12) (N := 135) (ty := tyX12) cl15 dX12_trim_34 o8081 37 (by decide) t_2428 (v := .ref 295) rfl ?_
  refine x_iload_n (M := M_X12_trim) dX12_trim_37 rfl ?_
  refine x_dup2 (M := M_X12_trim) dX12_trim_38 rfl rfl ?_
  refine x_iald (M := M_X12_trim) dX12_trim_39 o8082 (vp_inD (by decide +kernel)) ?_
  refine x_top (M := M_X12_trim) (y := (Int32.ofInt 1)) (by decide +kernel) ?_
  refine x_iconst (M := M_X12_trim) dX12_trim_40 ?_
  refine x_isub (M := M_X12_trim) dX12_trim_41 ?_
  refine x_norm (M := M_X12_trim) (st' := [.int (Int32.ofInt 0), .int (Int32.ofInt 6), .ref 295]) rfl (vi_cons (by decide +kernel : ((Int32.ofInt 1) - (Int32.ofInt 1)) = (Int32.ofInt 0)) rfl) rfl rfl rfl ?_
  refine y_iast (M := M_X12_trim) (k := 6) dX12_trim_42 o8082 (vp_inD (by decide +kernel)) (by decide +kernel) (fun h8084 w8085 f8086 => ?_)
  have w8087 : ob h8084 295 = some (.inl (0, 20, .inl (fun _ => 0))) := by rw [w8085, up_up (k := 6), up_z (k := 6)]
  refine x_goto (M := M_X12_trim) (tgt := 0) dX12_trim_43 (by decide) ?_
  refine x_aload_n (M := M_X12_trim) dX12_trim_0 rfl ?_
  have o8088 := (f8086 277 _ (by decide) o8081)
  refine x_getf (M := M_X12_trim) (ci := 15) (C := RX12) (T := TX12) (N := 135) (ty := tyX12) cl15 dX12_trim_1 o8088 37 (by decide) t_2428 (v := .ref 295) rfl ?_
  refine x_iload_n (M := M_X12_trim) dX12_trim_4 rfl ?_
  refine x_iald (M := M_X12_trim) dX12_trim_5 w8087 (vp_inD (by decide +kernel)) ?_
  refine x_top (M := M_X12_trim) (y := (Int32.ofInt 0)) (by decide +kernel) ?_
  refine x_if_le (M := M_X12_trim) (tgt := 46) dX12_trim_6 (by decide) (fun _ => ?_) (fun q => absurd q (by decide +kernel))
  refine x_aload_n (M := M_X12_trim) dX12_trim_46 rfl ?_
  refine x_getf (M := M_X12_trim) (ci := 15) (C := RX12) (T := TX12) (N := 135) (ty := tyX12) cl15 dX12_trim_47 o8088 37 (by decide) t_2428 (v := .ref 295) rfl ?_
  refine x_iload_n (M := M_X12_trim) dX12_trim_50 rfl ?_
  refine x_iald (M := M_X12_trim) dX12_trim_51 w8087 (vp_inD (by decide +kernel)) ?_
  refine x_top (M := M_X12_trim) (y := (Int32.ofInt 0)) (by decide +kernel) ?_
  refine x_if_ne (M := M_X12_trim) (tgt := 62) dX12_trim_52 (by decide) (fun q => absurd q (by decide +kernel)) (fun _ => ?_)
  refine x_aload_n (M := M_X12_trim) dX12_trim_55 rfl ?_
  refine x_getf (M := M_X12_trim) (ci := 15) (C := RX12) (T := TX12) (N := 135) (ty := tyX12) cl15 dX12_trim_56 o8088 38 (by decide) t_2429 (v := .ref 296) rfl ?_
  refine x_iload_n (M := M_X12_trim) dX12_trim_59 rfl ?_
  refine x_iconst (M := M_X12_trim) dX12_trim_60 ?_
  have o8090 := (f8086 296 _ (by decide) o8089)
  refine y_iast (M := M_X12_trim) (k := 6) dX12_trim_61 o8090 (vp_inD (by decide +kernel)) (by decide +kernel) (fun h8091 w8092 f8093 => ?_)
  have w8094 : ob h8091 296 = some (.inl (0, 20, .inl (fun _ => 0))) := by rw [w8092, up_z (k := 6)]
  have o8095 := (f8093 295 _ (by decide) w8087)
  exact x_vret (M := M_X12_trim) dX12_trim_62 rfl ⟨rfl, (fr_tr f8093 (by decide) (fr_tr f8086 (by decide) fr_rf)), ⟨o8095, w8094, trivial⟩⟩ (Nat.le_of_ble_eq_true rfl) (Nat.le_of_ble_eq_true rfl)
set_option maxRecDepth 10000 in
theorem q8106 {l : Launch} {E : EE} (hl : l.stackTraces = false) {h : HP} {dg : Int32} (o8046 : ob h 277 = some (.inr (15, ((RB dg).set 0 (.int (Int32.ofInt 0)))))) (o8047 : ob h 296 = some (.inl (0, 20, .inl (fun _ => 0)))) (o8068 : ob h 295 = some (.inl (0, 20, .inl (fun _ => 0)))) (o8069 : ob h 294 = some (.inl (1, 6000, .inr (.inl (fun _ => 0))))) : en_C l E M_X12_add 2 0 0 [.ref 277, .int (Int32.ofInt 6), .int (Int32.ofInt 4), .int (Int32.ofInt 5), .int (Int32.ofInt 1)] h (pF none [294, 295, 296] h (fun h' => ob h' 294 = some (.inl (1, 6000, .inr (.inl (fun _ => 0)))) ∧ ob h' 295 = some (.inl (0, 20, .inl (fun _ => 0))) ∧ ob h' 296 = some (.inl (0, 20, .inl (fun _ => 0))) ∧ True)) := by
  refine en_mk m_X12_add rfl hl (Nat.le_of_ble_eq_true rfl) ?_
  refine x_aload_n (M := M_X12_add) dX12_add_0 rfl ?_
  refine x_getf (M := M_X12_add) (ci := 15) (C := RX12) (T := TX12) (N := 135) (ty := tyX12) cl15 dX12_add_1 o8046 38 (by decide) t_2429 (v := .ref 296) rfl ?_
  refine x_iload_n (M := M_X12_add) dX12_add_4 rfl ?_
  refine x_iald (M := M_X12_add) dX12_add_5 o8047 (vp_inD (by decide +kernel)) ?_
  refine x_top (M := M_X12_add) (y := (Int32.ofInt 0)) (by decide +kernel) ?_
  refine x_istore (M := M_X12_add) dX12_add_6 (Nat.le_of_ble_eq_true rfl) rfl ?_
  refine x_iload (M := M_X12_add) dX12_add_8 rfl ?_
  refine x_if_eq (M := M_X12_add) (tgt := 23) dX12_add_10 (by decide) (fun q => absurd q (by decide +kernel)) (fun _ => ?_)
  refine x_aload_n (M := M_X12_add) dX12_add_13 rfl ?_
  refine x_getf (M := M_X12_add) (ci := 15) (C := RX12) (T := TX12) (N := 135) (ty := tyX12) cl15 dX12_add_14 o8046 38 (by decide) t_2429 (v := .ref 296) rfl ?_
  refine x_iload_n (M := M_X12_add) dX12_add_17 rfl ?_
  refine x_iald (M := M_X12_add) dX12_add_18 o8047 (vp_inD (by decide +kernel)) ?_
  refine x_top (M := M_X12_add) (y := (Int32.ofInt 0)) (by decide +kernel) ?_
  refine x_ineg (M := M_X12_add) dX12_add_19 ?_
  refine x_goto (M := M_X12_add) (tgt := 29) dX12_add_20 (by decide) ?_
  refine x_top (M := M_X12_add) (y := (Int32.ofInt 0)) (by decide +kernel) ?_
  refine x_istore (M := M_X12_add) dX12_add_29 (Nat.le_of_ble_eq_true rfl) rfl ?_
  refine x_iload (M := M_X12_add) dX12_add_31 rfl ?_
  refine x_if_eq (M := M_X12_add) (tgt := 48) dX12_add_33 (by decide) (fun _ => ?_) (fun q => absurd q (by decide +kernel))
  refine x_aload_n (M := M_X12_add) dX12_add_48 rfl ?_
  refine x_iload_n (M := M_X12_add) dX12_add_49 rfl ?_
  refine x_iload_n (M := M_X12_add) dX12_add_50 rfl ?_
  refine x_iload_n (M := M_X12_add) dX12_add_51 rfl ?_
  refine y_callVR (M := M_X12_add) (M' := M_X12_addSizes) rfl rfl dX12_add_52 m_X12_addSizes t_3178 t_3180 s_215 (q8067 hl o8046 o8068 o8069) rfl rfl o8046 rfl (Nat.le_of_ble_eq_true rfl) (Nat.le_of_ble_eq_true rfl) (Nat.le_of_ble_eq_true rfl) (Nat.le_of_ble_eq_true rfl) (fun h8070 f8071 w8072 => ?_)
  obtain ⟨o8073, o8074, -⟩ := w8072
  refine x_aload_n (M := M_X12_add) dX12_add_55 rfl ?_
  have o8075 := (f8071 277 _ (by decide) o8046)
  refine x_getf (M := M_X12_add) (ci := 15) (C := RX12) (T := TX12) (N := 135) (ty := tyX12) cl15 dX12_add_56 o8075 38 (by decide) t_2429 (v := .ref 296) rfl ?_
  refine x_iload_n (M := M_X12_add) dX12_add_59 rfl ?_
  refine x_iload (M := M_X12_add) dX12_add_60 rfl ?_
  refine x_if_ne (M := M_X12_add) (tgt := 70) dX12_add_62 (by decide) (fun q => absurd q (by decide +kernel)) (fun _ => ?_)
  refine x_iload (M := M_X12_add) dX12_add_65 rfl ?_
  refine x_goto (M := M_X12_add) (tgt := 72) dX12_add_67 (by decide) ?_
  have o8076 := (f8071 296 _ (by decide) o8047)
  refine y_iast (M := M_X12_add) (k := 6) dX12_add_72 o8076 (vp_inD (by decide +kernel)) (by decide +kernel) (fun h8077 w8078 f8079 => ?_)
  have w8080 : ob h8077 296 = some (.inl (0, 20, .inl (fun _ => 0))) := by rw [w8078, up_z (k := 6)]
  refine x_goto (M := M_X12_add) (tgt := 118) dX12_add_73 (by decide) ?_
  refine x_aload_n (M := M_X12_add) dX12_add_118 rfl ?_
  refine x_iload_n (M := M_X12_add) dX12_add_119 rfl ?_
  have o8097 := (f8079 277 _ (by decide) o8075)
  have o8098 := (f8079 295 _ (by decide) o8074)
  have o8099 := (f8079 294 _ (by decide) o8073)
  refine y_callVR (M := M_X12_add) (M' := M_X12_trim) rfl rfl dX12_add_120 m_X12_trim t_3170 t_3172 s_213 (q8096 hl o8097 o8098 o8099 w8080) rfl rfl o8097 rfl (Nat.le_of_ble_eq_true rfl) (Nat.le_of_ble_eq_true rfl) (Nat.le_of_ble_eq_true rfl) (Nat.le_of_ble_eq_true rfl) (fun h8100 f8101 w8102 => ?_)
  obtain ⟨o8103, o8104, -⟩ := w8102
  have o8105 := (f8101 294 _ (by decide) o8099)
  exact x_vret (M := M_X12_add) dX12_add_123 rfl ⟨rfl, (fr_tr f8101 (by decide) (fr_tr f8079 (by decide) (fr_tr f8071 (by decide) fr_rf))), ⟨o8105, o8103, o8104, trivial⟩⟩ (Nat.le_of_ble_eq_true rfl) (Nat.le_of_ble_eq_true rfl)
set_option maxRecDepth 10000 in
theorem q8116 {l : Launch} {E : EE} (hl : l.stackTraces = false) {h : HP} {a0 : Int32} {a1 : Int32} {a2 : Int32} {dg : Int32} (c0 : ¬ (a0.toInt < 0)) (c1 : a0.toInt < 32) (c2 : ¬ (a1.toInt < 0)) (c3 : a1.toInt < 32) (c4 : ¬ (a2.toInt < 0)) (c5 : a2.toInt < 32) (o7462 : ob h 277 = some (.inr (15, (RB dg)))) (o7691 : ob h 297 = some (.inl (1, 32, .inr (.inl (fun _ => 0))))) (o7693 : ob h 294 = some (.inl (1, 6000, .inr (.inl (fun _ => 0))))) (o7695 : ob h 295 = some (.inl (0, 20, .inl (fun _ => 0)))) (o7697 : ob h 296 = some (.inl (0, 20, .inl (fun _ => 0)))) (o7788 : ob h 298 = some (.inl (1, 32, .inr (.inl (fun _ => 0))))) : en_C l E M_X12_side 4 0 0 [.ref 277, .int a0, .int a1, .int a2] h (pF (some (.int (Int32.ofInt 0))) [277, 294, 295, 296] h (fun h' => ob h' 277 = some (.inr (15, ((RB dg).set 0 (.int (Int32.ofInt 0))))) ∧ ob h' 294 = some (.inl (1, 6000, .inr (.inl (fun _ => 0)))) ∧ ob h' 295 = some (.inl (0, 20, .inl (fun _ => 0))) ∧ ob h' 296 = some (.inl (0, 20, .inl (fun _ => 0))) ∧ True)) := by
  refine en_mk m_X12_side rfl hl (Nat.le_of_ble_eq_true rfl) ?_
  refine x_aload_n (M := M_X12_side) dX12_side_0 rfl ?_
  refine x_iconst (M := M_X12_side) dX12_side_1 ?_
  refine y_put (M := M_X12_side) (ci := 15) (C := RX12) (T := TX12) (N := 135) (ty := tyX12) cl15 dX12_side_2 o7462 0 (by decide) t_2391 (Or.inl rfl) (Nat.le_of_ble_eq_true rfl) rfl (fun h7463 w7464 f7465 => ?_)
  refine x_aload_n (M := M_X12_side) dX12_side_5 rfl ?_
  refine x_iload_n (M := M_X12_side) dX12_side_6 rfl ?_
  refine x_callSR (M := M_X12_side) (M' := M_X12_isPoint) rfl rfl dX12_side_7 m_X12_isPoint t_3154 t_3155 (q4351 hl c0 c1) rfl rfl (Nat.le_of_ble_eq_true rfl) (Nat.le_of_ble_eq_true rfl) (Nat.le_of_ble_eq_true rfl) (Nat.le_of_ble_eq_true rfl) ?_
  refine x_if_eq (M := M_X12_side) (tgt := 27) dX12_side_10 (by decide) (fun q => absurd q (by decide +kernel)) (fun _ => ?_)
  refine x_iload_n (M := M_X12_side) dX12_side_13 rfl ?_
  refine x_callSR (M := M_X12_side) (M' := M_X12_isPoint) rfl rfl dX12_side_14 m_X12_isPoint t_3154 t_3155 (q6574 hl c2 c3) rfl rfl (Nat.le_of_ble_eq_true rfl) (Nat.le_of_ble_eq_true rfl) (Nat.le_of_ble_eq_true rfl) (Nat.le_of_ble_eq_true rfl) ?_
  refine x_if_eq (M := M_X12_side) (tgt := 27) dX12_side_17 (by decide) (fun q => absurd q (by decide +kernel)) (fun _ => ?_)
  refine x_iload_n (M := M_X12_side) dX12_side_20 rfl ?_
  refine x_callSR (M := M_X12_side) (M' := M_X12_isPoint) rfl rfl dX12_side_21 m_X12_isPoint t_3154 t_3155 (q7466 hl c4 c5) rfl rfl (Nat.le_of_ble_eq_true rfl) (Nat.le_of_ble_eq_true rfl) (Nat.le_of_ble_eq_true rfl) (Nat.le_of_ble_eq_true rfl) ?_
  refine x_if_ne (M := M_X12_side) (tgt := 31) dX12_side_24 (by decide) (fun _ => ?_) (fun q => absurd q (by decide +kernel))
  refine x_iconst (M := M_X12_side) dX12_side_31 ?_
  refine x_iconst (M := M_X12_side) dX12_side_32 ?_
  refine y_callVR (M := M_X12_side) (M' := M_X12_fails) rfl rfl dX12_side_33 m_X12_fails t_2805 t_2807 s_157 (q241 hl w7464) rfl rfl w7464 rfl (Nat.le_of_ble_eq_true rfl) (Nat.le_of_ble_eq_true rfl) (Nat.le_of_ble_eq_true rfl) (Nat.le_of_ble_eq_true rfl) (fun h7467 f7468 w7469 => ?_)
  obtain ⟨o7470, -⟩ := w7469
  refine x_if_eq (M := M_X12_side) (tgt := 41) dX12_side_36 (by decide) (fun _ => ?_) (fun q => absurd q (by decide +kernel))
  refine x_aload_n (M := M_X12_side) dX12_side_41 rfl ?_
  refine x_iconst (M := M_X12_side) dX12_side_42 ?_
  refine x_iconst (M := M_X12_side) dX12_side_43 ?_
  refine x_iload_n (M := M_X12_side) dX12_side_44 rfl ?_
  refine x_iload_n (M := M_X12_side) dX12_side_45 rfl ?_
  have o7692 := (f7468 297 _ (by decide) (f7465 297 _ (by decide) o7691))
  have o7694 := (f7468 294 _ (by decide) (f7465 294 _ (by decide) o7693))
  have o7696 := (f7468 295 _ (by decide) (f7465 295 _ (by decide) o7695))
  have o7698 := (f7468 296 _ (by decide) (f7465 296 _ (by decide) o7697))
  refine y_callVR (M := M_X12_side) (M' := M_X12_between) rfl rfl dX12_side_46 m_X12_between t_3161 t_3163 s_211 (q7690 hl c0 c1 c2 c3 o7470 o7692 o7694 o7696 o7698) rfl rfl o7470 rfl (Nat.le_of_ble_eq_true rfl) (Nat.le_of_ble_eq_true rfl) (Nat.le_of_ble_eq_true rfl) (Nat.le_of_ble_eq_true rfl) (fun h7699 f7700 w7701 => ?_)
  obtain ⟨o7702, o7703, o7704, -⟩ := w7701
  refine x_aload_n (M := M_X12_side) dX12_side_49 rfl ?_
  refine x_iconst (M := M_X12_side) dX12_side_50 ?_
  refine x_iconst (M := M_X12_side) dX12_side_51 ?_
  refine x_iload_n (M := M_X12_side) dX12_side_52 rfl ?_
  refine x_iload_n (M := M_X12_side) dX12_side_53 rfl ?_
  have o7787 := (f7700 277 _ (by decide) o7470)
  have o7789 := (f7700 298 _ (by decide) (f7468 298 _ (by decide) (f7465 298 _ (by decide) o7788)))
  refine y_callVR (M := M_X12_side) (M' := M_X12_between) rfl rfl dX12_side_54 m_X12_between t_3161 t_3163 s_211 (q7786 hl c0 c1 c4 c5 o7787 o7789 o7702 o7703 o7704) rfl rfl o7787 rfl (Nat.le_of_ble_eq_true rfl) (Nat.le_of_ble_eq_true rfl) (Nat.le_of_ble_eq_true rfl) (Nat.le_of_ble_eq_true rfl) (fun h7790 f7791 w7792 => ?_)
  obtain ⟨o7793, o7794, o7795, -⟩ := w7792
  refine x_aload_n (M := M_X12_side) dX12_side_57 rfl ?_
  refine x_iconst (M := M_X12_side) dX12_side_58 ?_
  refine x_iconst (M := M_X12_side) dX12_side_59 ?_
  refine x_iload_n (M := M_X12_side) dX12_side_60 rfl ?_
  refine x_iload_n (M := M_X12_side) dX12_side_61 rfl ?_
  have o7878 := (f7791 277 _ (by decide) o7787)
  have o7879 := (f7791 298 _ (by decide) o7789)
  refine y_callVR (M := M_X12_side) (M' := M_X12_between) rfl rfl dX12_side_62 m_X12_between t_3161 t_3163 s_211 (q7877 hl c0 c1 c2 c3 o7878 o7879 o7793 o7794 o7795) rfl rfl o7878 rfl (Nat.le_of_ble_eq_true rfl) (Nat.le_of_ble_eq_true rfl) (Nat.le_of_ble_eq_true rfl) (Nat.le_of_ble_eq_true rfl) (fun h7880 f7881 w7882 => ?_)
  obtain ⟨o7883, o7884, o7885, -⟩ := w7882
  refine x_aload_n (M := M_X12_side) dX12_side_65 rfl ?_
  refine x_iconst (M := M_X12_side) dX12_side_66 ?_
  refine x_iconst (M := M_X12_side) dX12_side_67 ?_
  refine x_iload_n (M := M_X12_side) dX12_side_68 rfl ?_
  refine x_iload_n (M := M_X12_side) dX12_side_69 rfl ?_
  have o7968 := (f7881 277 _ (by decide) o7878)
  have o7969 := (f7881 297 _ (by decide) (f7791 297 _ (by decide) (f7700 297 _ (by decide) o7692)))
  refine y_callVR (M := M_X12_side) (M' := M_X12_between) rfl rfl dX12_side_70 m_X12_between t_3161 t_3163 s_211 (q7967 hl c0 c1 c4 c5 o7968 o7969 o7883 o7884 o7885) rfl rfl o7968 rfl (Nat.le_of_ble_eq_true rfl) (Nat.le_of_ble_eq_true rfl) (Nat.le_of_ble_eq_true rfl) (Nat.le_of_ble_eq_true rfl) (fun h7970 f7971 w7972 => ?_)
  obtain ⟨o7973, o7974, o7975, -⟩ := w7972
  refine x_aload_n (M := M_X12_side) dX12_side_73 rfl ?_
  refine x_iconst (M := M_X12_side) dX12_side_74 ?_
  refine x_iconst (M := M_X12_side) dX12_side_75 ?_
  refine x_iconst (M := M_X12_side) dX12_side_76 ?_
  have o8005 := (f7971 277 _ (by decide) o7968)
  refine y_callVR (M := M_X12_side) (M' := M_X12_times) rfl rfl dX12_side_77 m_X12_times t_3194 t_3196 s_219 (q8004 hl o8005 o7974 o7975) rfl rfl o8005 rfl (Nat.le_of_ble_eq_true rfl) (Nat.le_of_ble_eq_true rfl) (Nat.le_of_ble_eq_true rfl) (Nat.le_of_ble_eq_true rfl) (fun h8006 f8007 w8008 => ?_)
  obtain ⟨o8009, o8010, -⟩ := w8008
  refine x_aload_n (M := M_X12_side) dX12_side_80 rfl ?_
  refine x_iconst (M := M_X12_side) dX12_side_81 ?_
  refine x_iconst (M := M_X12_side) dX12_side_82 ?_
  refine x_iconst (M := M_X12_side) dX12_side_83 ?_
  have o8040 := (f8007 277 _ (by decide) o8005)
  refine y_callVR (M := M_X12_side) (M' := M_X12_times) rfl rfl dX12_side_84 m_X12_times t_3194 t_3196 s_219 (q8039 hl o8040 o8009 o8010) rfl rfl o8040 rfl (Nat.le_of_ble_eq_true rfl) (Nat.le_of_ble_eq_true rfl) (Nat.le_of_ble_eq_true rfl) (Nat.le_of_ble_eq_true rfl) (fun h8041 f8042 w8043 => ?_)
  obtain ⟨o8044, o8045, -⟩ := w8043
  refine x_aload_n (M := M_X12_side) dX12_side_87 rfl ?_
  refine x_bipush (M := M_X12_side) dX12_side_88 ?_
  refine x_iconst (M := M_X12_side) dX12_side_90 ?_
  refine x_iconst (M := M_X12_side) dX12_side_91 ?_
  refine x_iconst (M := M_X12_side) dX12_side_92 ?_
  refine x_norm (M := M_X12_side) (st' := [.int (Int32.ofInt 1), .int (Int32.ofInt 5), .int (Int32.ofInt 4), .int (Int32.ofInt 6), .ref 277]) rfl (v_cons (v_cons (v_cons (vi_cons (by decide +kernel : ((Int8.ofInt 6).toInt32) = (Int32.ofInt 6)) rfl)))) rfl rfl rfl ?_
  have o8107 := (f8042 277 _ (by decide) o8040)
  have o8108 := (f8042 294 _ (by decide) (f8007 294 _ (by decide) o7973))
  refine y_callVR (M := M_X12_side) (M' := M_X12_add) rfl rfl dX12_side_93 m_X12_add t_3174 t_3176 s_214 (q8106 hl o8107 o8045 o8044 o8108) rfl rfl o8107 rfl (Nat.le_of_ble_eq_true rfl) (Nat.le_of_ble_eq_true rfl) (Nat.le_of_ble_eq_true rfl) (Nat.le_of_ble_eq_true rfl) (fun h8109 f8110 w8111 => ?_)
  obtain ⟨o8112, o8113, o8114, -⟩ := w8111
  refine x_aload_n (M := M_X12_side) dX12_side_96 rfl ?_
  have o8115 := (f8110 277 _ (by decide) o8107)
  refine x_getf (M := M_X12_side) (ci := 15) (C := RX12) (T := TX12) (N := 135) (ty := tyX12) cl15 dX12_side_97 o8115 38 (by decide) t_2429 (v := .ref 296) rfl ?_
  refine x_bipush (M := M_X12_side) dX12_side_100 ?_
  refine x_iald (M := M_X12_side) dX12_side_102 o8114 (vp_inD (by decide +kernel)) ?_
  refine x_top (M := M_X12_side) (y := (Int32.ofInt 0)) (by decide +kernel) ?_
  exact x_iret (M := M_X12_side) dX12_side_103 rfl ⟨rfl, (fr_tr f8110 (by decide) (fr_tr f8042 (by decide) (fr_tr f8007 (by decide) (fr_tr f7971 (by decide) (fr_tr f7881 (by decide) (fr_tr f7791 (by decide) (fr_tr f7700 (by decide) (fr_tr f7468 (by decide) (fr_tr f7465 (by decide) fr_rf))))))))), ⟨o8115, o8112, o8113, o8114, trivial⟩⟩ (Nat.le_of_ble_eq_true rfl) (Nat.le_of_ble_eq_true rfl)
set_option maxRecDepth 10000 in
theorem lc30_3 {l : Launch} {E : EE} (hl : l.stackTraces = false) (nm : String) {xs : Nat → Int32} (hx : E.2.2.2.2 0 = some (7, xs)) {h : HP} {a0 : Int32} {a1 : Int32} {a2 : Int32} {dg : Int32} (e2 : xs 2 = a0) (e3 : xs 3 = a1) (e4 : xs 4 = a2) (c0 : ¬ (a0.toInt < 0)) (c1 : a0.toInt < 32) (c2 : ¬ (a1.toInt < 0)) (c3 : a1.toInt < 32) (c4 : ¬ (a2.toInt < 0)) (c5 : a2.toInt < 32) (o7441 : ob h 32 = some (.inr (14, [.ref 33, .ref 162, .ref 166, .int (0 : Int32), .int (0 : Int32), .int (0 : Int32), .ref 167, .ref 170, .ref 173, .ref 177, .ref 193, .ref 208, .ref 222, .ref 238, .ref 252, .ref 274, .ref 275, .ref 276, .int (0 : Int32)]))) (o7442 : ob h 252 = some (.inr (10, [.ref 253, .ref 254, .ref 255, .ref 272, .ref 273]))) (o7443 : ob h 253 = some (.inl (1, 32, .inr (.inl (fun _ => 0))))) (o7444 : ob h 255 = some (.inl (5, 16, .inr (.inr (.inr (.inr (fun i => if i < 16 then some (255 + 1 + i) else none))))))) (o7445 : ob h 256 = some (.inl (0, 280, .inl (fun _ => 0)))) (o7446 : ob h 272 = some (.inl (0, 16, .inl (fun _ => 0)))) (o7447 : ob h 273 = some (.inl (0, 16, .inl (fun _ => 0)))) (o7448 : ob h 257 = some (.inl (0, 280, .inl (fun _ => 0)))) (o7449 : ob h 258 = some (.inl (0, 280, .inl (fun _ => 0)))) (o7450 : ob h 254 = some (.inl (1, 32, .inr (.inl (fun _ => 0))))) (o7451 : ob h 259 = some (.inl (0, 280, .inl (fun _ => 0)))) (o7452 : ob h 260 = some (.inl (0, 280, .inl (fun _ => 0)))) (o7453 : ob h 261 = some (.inl (0, 280, .inl (fun _ => 0)))) (o7454 : ob h 262 = some (.inl (0, 280, .inl (fun _ => 0)))) (o7455 : ob h 263 = some (.inl (0, 280, .inl (fun _ => 0)))) (o7456 : ob h 264 = some (.inl (0, 280, .inl (fun _ => 0)))) (o7457 : ob h 359 = some (.inl (1, 1, .inr (.inl (fun _ => 0))))) (o8117 : ob h 277 = some (.inr (15, (RB dg)))) (o8119 : ob h 297 = some (.inl (1, 32, .inr (.inl (fun _ => 0))))) (o8121 : ob h 294 = some (.inl (1, 6000, .inr (.inl (fun _ => 0))))) (o8123 : ob h 295 = some (.inl (0, 20, .inl (fun _ => 0)))) (o8125 : ob h 296 = some (.inl (0, 20, .inl (fun _ => 0)))) (o8127 : ob h 298 = some (.inl (1, 32, .inr (.inl (fun _ => 0))))) : XX l E (M_law nm) 1312 342628 8074320 (fun o _ => o = .inl (some (.int 1))) 2277 [some (.ref 0), some (.ref 32), some (.ref 277), some (.ref 359), some (.int (Int32.ofInt 1)), none, none, none] [] h 328 2463747 := by
  refine x_aload_n (M := (M_law nm)) dL_law_2277 rfl ?_
  refine x_aload_n (M := (M_law nm)) dL_law_2278 rfl ?_
  refine x_iload (M := (M_law nm)) dL_law_2279 rfl ?_
  refine x_iconst (M := (M_law nm)) dL_law_2281 ?_
  refine x_iadd (M := (M_law nm)) dL_law_2282 ?_
  refine x_sald (M := (M_law nm)) dL_law_2283 (by decide) hx (vp_inD (by decide +kernel)) ?_
  refine x_top (M := (M_law nm)) (y := a0) ((congrArg xs (by decide +kernel : ((Int32.ofInt 1) + (Int32.ofInt 1)).toNatClampNeg = 2)).trans e2) ?_
  refine x_aload_n (M := (M_law nm)) dL_law_2284 rfl ?_
  refine x_iload (M := (M_law nm)) dL_law_2285 rfl ?_
  refine x_iconst (M := (M_law nm)) dL_law_2287 ?_
  refine x_iadd (M := (M_law nm)) dL_law_2288 ?_
  refine x_sald (M := (M_law nm)) dL_law_2289 (by decide) hx (vp_inD (by decide +kernel)) ?_
  refine x_top (M := (M_law nm)) (y := a1) ((congrArg xs (by decide +kernel : ((Int32.ofInt 1) + (Int32.ofInt 2)).toNatClampNeg = 3)).trans e3) ?_
  refine x_aload_n (M := (M_law nm)) dL_law_2290 rfl ?_
  refine x_iload (M := (M_law nm)) dL_law_2291 rfl ?_
  refine x_iconst (M := (M_law nm)) dL_law_2293 ?_
  refine x_iadd (M := (M_law nm)) dL_law_2294 ?_
  refine x_sald (M := (M_law nm)) dL_law_2295 (by decide) hx (vp_inD (by decide +kernel)) ?_
  refine x_top (M := (M_law nm)) (y := a2) ((congrArg xs (by decide +kernel : ((Int32.ofInt 1) + (Int32.ofInt 3)).toNatClampNeg = 4)).trans e4) ?_
  refine x_aload_n (M := (M_law nm)) dL_law_2296 rfl ?_
  refine y_callSW (M := (M_law nm)) (M' := M_L_side) rfl rfl dL_law_2297 m_L_side t_2316 t_2317 (q7440 hl c0 c1 c2 c3 c4 c5 o7441 o7442 o7443 o7444 o7445 o7446 o7447 o7448 o7449 o7450 o7451 o7452 o7453 o7454 o7455 o7456 o7457) rfl rfl (Nat.le_of_ble_eq_true rfl) (Nat.le_of_ble_eq_true rfl) (Nat.le_of_ble_eq_true rfl) (Nat.le_of_ble_eq_true rfl) (fun h7458 f7459 w7460 => ?_)
  obtain ⟨o7461, -⟩ := w7460
  refine x_istore (M := (M_law nm)) dL_law_2300 (Nat.le_of_ble_eq_true rfl) rfl ?_
  refine x_aload_n (M := (M_law nm)) dL_law_2302 rfl ?_
  refine x_aload_n (M := (M_law nm)) dL_law_2303 rfl ?_
  refine x_iload (M := (M_law nm)) dL_law_2304 rfl ?_
  refine x_iconst (M := (M_law nm)) dL_law_2306 ?_
  refine x_iadd (M := (M_law nm)) dL_law_2307 ?_
  refine x_sald (M := (M_law nm)) dL_law_2308 (by decide) hx (vp_inD (by decide +kernel)) ?_
  refine x_top (M := (M_law nm)) (y := a0) ((congrArg xs (by decide +kernel : ((Int32.ofInt 1) + (Int32.ofInt 1)).toNatClampNeg = 2)).trans e2) ?_
  refine x_aload_n (M := (M_law nm)) dL_law_2309 rfl ?_
  refine x_iload (M := (M_law nm)) dL_law_2310 rfl ?_
  refine x_iconst (M := (M_law nm)) dL_law_2312 ?_
  refine x_iadd (M := (M_law nm)) dL_law_2313 ?_
  refine x_sald (M := (M_law nm)) dL_law_2314 (by decide) hx (vp_inD (by decide +kernel)) ?_
  refine x_top (M := (M_law nm)) (y := a1) ((congrArg xs (by decide +kernel : ((Int32.ofInt 1) + (Int32.ofInt 2)).toNatClampNeg = 3)).trans e3) ?_
  refine x_aload_n (M := (M_law nm)) dL_law_2315 rfl ?_
  refine x_iload (M := (M_law nm)) dL_law_2316 rfl ?_
  refine x_iconst (M := (M_law nm)) dL_law_2318 ?_
  refine x_iadd (M := (M_law nm)) dL_law_2319 ?_
  refine x_sald (M := (M_law nm)) dL_law_2320 (by decide) hx (vp_inD (by decide +kernel)) ?_
  refine x_top (M := (M_law nm)) (y := a2) ((congrArg xs (by decide +kernel : ((Int32.ofInt 1) + (Int32.ofInt 3)).toNatClampNeg = 4)).trans e4) ?_
  have o8118 := (f7459 277 _ (by decide) o8117)
  have o8120 := (f7459 297 _ (by decide) o8119)
  have o8122 := (f7459 294 _ (by decide) o8121)
  have o8124 := (f7459 295 _ (by decide) o8123)
  have o8126 := (f7459 296 _ (by decide) o8125)
  have o8128 := (f7459 298 _ (by decide) o8127)
  refine y_callVR (M := (M_law nm)) (M' := M_X12_side) rfl rfl dL_law_2321 m_X12_side t_3157 t_3158 t_3159 (q8116 hl c0 c1 c2 c3 c4 c5 o8118 o8120 o8122 o8124 o8126 o8128) rfl rfl o8118 rfl (Nat.le_of_ble_eq_true rfl) (Nat.le_of_ble_eq_true rfl) (Nat.le_of_ble_eq_true rfl) (Nat.le_of_ble_eq_true rfl) (fun h8129 f8130 w8131 => ?_)
  obtain ⟨o8132, o8133, o8134, o8135, -⟩ := w8131
  refine x_istore (M := (M_law nm)) dL_law_2324 (Nat.le_of_ble_eq_true rfl) rfl ?_
  refine x_aload_n (M := (M_law nm)) dL_law_2326 rfl ?_
  refine x_callVR (M := (M_law nm)) (M' := M_X12_thrown) rfl rfl dL_law_2327 m_X12_thrown t_2797 t_2798 t_2799 (q254 hl o8132) rfl rfl o8132 rfl (Nat.le_of_ble_eq_true rfl) (Nat.le_of_ble_eq_true rfl) (Nat.le_of_ble_eq_true rfl) (Nat.le_of_ble_eq_true rfl) ?_
  refine x_iload (M := (M_law nm)) dL_law_2330 rfl ?_
  refine x_icmp_eq (M := (M_law nm)) (tgt := 2337) dL_law_2332 (by decide) (fun _ => ?_) (fun q => absurd q (by decide +kernel))
  refine x_iload (M := (M_law nm)) dL_law_2337 rfl ?_
  refine x_if_ne (M := (M_law nm)) (tgt := 2354) dL_law_2339 (by decide) (fun q => absurd q (by decide +kernel)) (fun _ => ?_)
  refine x_aload_n (M := (M_law nm)) dL_law_2342 rfl ?_
  refine x_iconst (M := (M_law nm)) dL_law_2343 ?_
  have o8136 := (f8130 359 _ (by decide) o7461)
  refine x_lald (M := (M_law nm)) dL_law_2344 o8136 (vp_inD (by decide +kernel)) ?_
  refine x_topl (M := (M_law nm)) (y := (Int64.ofInt 0)) (by decide +kernel) ?_
  refine x_iload (M := (M_law nm)) dL_law_2345 rfl ?_
  refine x_i2l (M := (M_law nm)) dL_law_2347 ?_
  refine x_lcmp (M := (M_law nm)) dL_law_2348 ?_
  refine x_if_eq (M := (M_law nm)) (tgt := 2354) dL_law_2349 (by decide) (fun _ => ?_) (fun q => absurd q (by decide +kernel))
  refine x_goto (M := (M_law nm)) (tgt := 2449) dL_law_2354 (by decide) ?_
  refine x_iinc (M := (M_law nm)) dL_law_2449 rfl (Nat.le_of_ble_eq_true rfl) rfl ?_
  refine x_lvs (M := (M_law nm)) (lv' := [some (.ref 0), some (.ref 32), some (.ref 277), some (.ref 359), some (.int (Int32.ofInt 7)), some (.int (Int32.ofInt 0)), some (.int (Int32.ofInt 0)), none]) (by rw [(by decide +kernel : (Int32.ofInt 1) + Int32.ofInt 6 = (Int32.ofInt 7))] <;> rfl) ?_
  refine x_goto (M := (M_law nm)) (tgt := 33) dL_law_2452 (by decide) ?_
  refine x_iload (M := (M_law nm)) dL_law_33 rfl ?_
  refine x_aload_n (M := (M_law nm)) dL_law_35 rfl ?_
  refine x_slen (M := (M_law nm)) dL_law_36 (by decide) hx ?_
  refine x_bipush (M := (M_law nm)) dL_law_37 ?_
  refine x_isub (M := (M_law nm)) dL_law_39 ?_
  refine x_icmp_gt (M := (M_law nm)) (tgt := 2455) dL_law_40 (by decide) (fun _ => ?_) (fun q => absurd q (by decide +kernel))
  refine x_iconst (M := (M_law nm)) dL_law_2455 ?_
  exact x_zret (M := (M_law nm)) dL_law_2456 rfl (by decide) rfl (Nat.le_of_ble_eq_true rfl) (Nat.le_of_ble_eq_true rfl)
set_option maxRecDepth 10000 in
theorem q8137 {l : Launch} {E : EE} (hl : l.stackTraces = false) {h : HP} {a2 : Int32} (c0 : ¬ (a2.toInt < 0)) (c1 : ¬ (a2.toInt < 32)) : en_C l E M_X11_isNoSignPoint 0 0 0 [.int a2] h (pR (some (.int (Int32.ofInt 1))) h) := by
  refine en_mk m_X11_isNoSignPoint rfl hl (Nat.le_of_ble_eq_true rfl) ?_
  refine x_iload_n (M := M_X11_isNoSignPoint) dX11_isNoSignPoint_0 rfl ?_
  refine x_if_lt (M := M_X11_isNoSignPoint) (tgt := 10) dX11_isNoSignPoint_1 (by decide) (fun q => absurd ((bi_lt rfl (by decide +kernel)).mp q) (by omega : ¬ (a2.toInt < 0))) (fun _ => ?_)
  refine x_iload_n (M := M_X11_isNoSignPoint) dX11_isNoSignPoint_4 rfl ?_
  refine x_bipush (M := M_X11_isNoSignPoint) dX11_isNoSignPoint_5 ?_
  refine x_icmp_lt (M := M_X11_isNoSignPoint) (tgt := 14) dX11_isNoSignPoint_7 (by decide) (fun q => absurd ((bi_lt rfl (by decide +kernel)).mp q) (by omega : ¬ (a2.toInt < 32))) (fun _ => ?_)
  refine x_iconst (M := M_X11_isNoSignPoint) dX11_isNoSignPoint_10 ?_
  refine x_goto (M := M_X11_isNoSignPoint) (tgt := 15) dX11_isNoSignPoint_11 (by decide) ?_
  exact x_zret (M := M_X11_isNoSignPoint) dX11_isNoSignPoint_15 rfl (by decide) ⟨rfl, rfl⟩ (Nat.le_of_ble_eq_true rfl) (Nat.le_of_ble_eq_true rfl)
set_option maxRecDepth 10000 in
theorem q8139 {l : Launch} {E : EE} (hl : l.stackTraces = false) {h : HP} {a0 : Int32} {a1 : Int32} {a2 : Int32} (c0 : ¬ (a0.toInt < 0)) (c1 : a0.toInt < 32) (c2 : ¬ (a1.toInt < 0)) (c3 : a1.toInt < 32) (c4 : ¬ (a2.toInt < 0)) (c5 : ¬ (a2.toInt < 32)) : en_C l E M_X11_side 6 1 6 [.ref 32, .int a0, .int a1, .int a2] h (pT "java/lang/IndexOutOfBoundsException" [] h (fun _ => True)) := by
  refine en_mk m_X11_side rfl hl (Nat.le_of_ble_eq_true rfl) ?_
  refine x_iload_n (M := M_X11_side) dX11_side_0 rfl ?_
  refine x_callSR (M := M_X11_side) (M' := M_X11_isNoSignPoint) rfl rfl dX11_side_1 m_X11_isNoSignPoint t_2309 t_2310 (q4334 hl c0 c1) rfl rfl (Nat.le_of_ble_eq_true rfl) (Nat.le_of_ble_eq_true rfl) (Nat.le_of_ble_eq_true rfl) (Nat.le_of_ble_eq_true rfl) ?_
  refine x_if_ne (M := M_X11_side) (tgt := 21) dX11_side_4 (by decide) (fun q => absurd q (by decide +kernel)) (fun _ => ?_)
  refine x_iload_n (M := M_X11_side) dX11_side_7 rfl ?_
  refine x_callSR (M := M_X11_side) (M' := M_X11_isNoSignPoint) rfl rfl dX11_side_8 m_X11_isNoSignPoint t_2309 t_2310 (q6557 hl c2 c3) rfl rfl (Nat.le_of_ble_eq_true rfl) (Nat.le_of_ble_eq_true rfl) (Nat.le_of_ble_eq_true rfl) (Nat.le_of_ble_eq_true rfl) ?_
  refine x_if_ne (M := M_X11_side) (tgt := 21) dX11_side_11 (by decide) (fun q => absurd q (by decide +kernel)) (fun _ => ?_)
  refine x_iload_n (M := M_X11_side) dX11_side_14 rfl ?_
  refine x_callSR (M := M_X11_side) (M' := M_X11_isNoSignPoint) rfl rfl dX11_side_15 m_X11_isNoSignPoint t_2309 t_2310 (q8137 hl c4 c5) rfl rfl (Nat.le_of_ble_eq_true rfl) (Nat.le_of_ble_eq_true rfl) (Nat.le_of_ble_eq_true rfl) (Nat.le_of_ble_eq_true rfl) ?_
  refine x_if_eq (M := M_X11_side) (tgt := 29) dX11_side_18 (by decide) (fun q => absurd q (by decide +kernel)) (fun _ => ?_)
  exact x_throw (M := M_X11_side) (names := en_nm) rfl dX11_side_21 dX11_side_24 dX11_side_25 dX11_side_28 (by decide +kernel) en_nm_ok (Or.inl t_748) (Or.inl t_22) (at_X11_IndexOutOfBoundsException_139) (Nat.le_of_ble_eq_true rfl) (Nat.le_of_ble_eq_true rfl) (Nat.le_of_ble_eq_true rfl) (Nat.le_of_ble_eq_true rfl) (fun n9 => ⟨rfl, (fr_tr (fr_app (List.replicate n9 none)) (fun _ h => nomatch h) fr_rf), trivial⟩)
set_option maxRecDepth 10000 in
theorem q8144 {l : Launch} {E : EE} (hl : l.stackTraces = false) {h : HP} {a0 : Int32} {a1 : Int32} {a2 : Int32} (c0 : ¬ (a0.toInt < 0)) (c1 : a0.toInt < 32) (c2 : ¬ (a1.toInt < 0)) (c3 : a1.toInt < 32) (c4 : ¬ (a2.toInt < 0)) (c5 : ¬ (a2.toInt < 32)) (o8140 : ob h 32 = some (.inr (14, [.ref 33, .ref 162, .ref 166, .int (0 : Int32), .int (0 : Int32), .int (0 : Int32), .ref 167, .ref 170, .ref 173, .ref 177, .ref 193, .ref 208, .ref 222, .ref 238, .ref 252, .ref 274, .ref 275, .ref 276, .int (0 : Int32)]))) : en_C l E M_L_side 7 1 6 [.ref 32, .int a0, .int a1, .int a2, .ref 359] h (pF (some (.int (Int32.ofInt 1))) [] h (fun _ => True)) := by
  refine en_mkW m_L_side rfl hl (Nat.le_of_ble_eq_true rfl) ?_
  refine x_aload (M := M_L_side) dL_side_0 rfl ?_
  refine x_iconst (M := M_L_side) dL_side_2 ?_
  refine x_aload_n (M := M_L_side) dL_side_3 rfl ?_
  refine x_iload_n (M := M_L_side) dL_side_4 rfl ?_
  refine x_iload_n (M := M_L_side) dL_side_5 rfl ?_
  refine x_iload_n (M := M_L_side) dL_side_6 rfl ?_
  refine y_callVHX (M := M_L_side) (M' := M_X11_side) (i9 := 5) (nx := 17) rfl dL_side_7 m_X11_side t_2319 t_2320 t_2321 o8140 rfl (q8139 hl c0 c1 c2 c3 c4 c5) rfl rfl (Nat.le_of_ble_eq_true rfl) (Nat.le_of_ble_eq_true rfl) (Nat.le_of_ble_eq_true rfl) (Nat.le_of_ble_eq_true rfl) (en_hdm (k0 := 5) [] [] rfl (fun _ h => nomatch h) (by decide +kernel) (by decide) t_739 n_750 dL_side_15) (by decide) rfl (fun h8141 f8142 w8143 => ?_)
  refine x_iconst (M := M_L_side) dL_side_17 ?_
  exact x_iret (M := M_L_side) dL_side_18 rfl ⟨rfl, (fr_tr f8142 (fun _ h => nomatch h) fr_rf), trivial⟩ (Nat.le_of_ble_eq_true rfl) (Nat.le_of_ble_eq_true rfl)
set_option maxRecDepth 10000 in
theorem q8153 {l : Launch} {E : EE} (hl : l.stackTraces = false) {h : HP} {a2 : Int32} (c0 : ¬ (a2.toInt < 0)) (c1 : ¬ (a2.toInt < 32)) : en_C l E M_X12_isPoint 0 0 0 [.int a2] h (pR (some (.int (Int32.ofInt 0))) h) := by
  refine en_mk m_X12_isPoint rfl hl (Nat.le_of_ble_eq_true rfl) ?_
  refine x_iload_n (M := M_X12_isPoint) dX12_isPoint_0 rfl ?_
  refine x_if_lt (M := M_X12_isPoint) (tgt := 14) dX12_isPoint_1 (by decide) (fun q => absurd ((bi_lt rfl (by decide +kernel)).mp q) (by omega : ¬ (a2.toInt < 0))) (fun _ => ?_)
  refine x_iload_n (M := M_X12_isPoint) dX12_isPoint_4 rfl ?_
  refine x_bipush (M := M_X12_isPoint) dX12_isPoint_5 ?_
  refine x_icmp_ge (M := M_X12_isPoint) (tgt := 14) dX12_isPoint_7 (by decide) (fun _ => ?_) (fun q => absurd ((bi_le (by decide +kernel) rfl).mpr (by omega : (32 ≤ a2.toInt : Prop))) q)
  refine x_iconst (M := M_X12_isPoint) dX12_isPoint_14 ?_
  exact x_zret (M := M_X12_isPoint) dX12_isPoint_15 rfl (by decide) ⟨rfl, rfl⟩ (Nat.le_of_ble_eq_true rfl) (Nat.le_of_ble_eq_true rfl)
set_option maxRecDepth 10000 in
theorem q8158 {l : Launch} {E : EE} (hl : l.stackTraces = false) {h : HP} {a0 : Int32} {a1 : Int32} {a2 : Int32} {dg : Int32} (c0 : ¬ (a0.toInt < 0)) (c1 : a0.toInt < 32) (c2 : ¬ (a1.toInt < 0)) (c3 : a1.toInt < 32) (c4 : ¬ (a2.toInt < 0)) (c5 : ¬ (a2.toInt < 32)) (o8149 : ob h 277 = some (.inr (15, (RB dg)))) : en_C l E M_X12_side 1 0 0 [.ref 277, .int a0, .int a1, .int a2] h (pF (some (.int (Int32.ofInt 0))) [277] h (fun h' => ob h' 277 = some (.inr (15, ((RB dg).set 0 (.int (Int32.ofInt 1))))) ∧ True)) := by
  refine en_mk m_X12_side rfl hl (Nat.le_of_ble_eq_true rfl) ?_
  refine x_aload_n (M := M_X12_side) dX12_side_0 rfl ?_
  refine x_iconst (M := M_X12_side) dX12_side_1 ?_
  refine y_put (M := M_X12_side) (ci := 15) (C := RX12) (T := TX12) (N := 135) (ty := tyX12) cl15 dX12_side_2 o8149 0 (by decide) t_2391 (Or.inl rfl) (Nat.le_of_ble_eq_true rfl) rfl (fun h8150 w8151 f8152 => ?_)
  refine x_aload_n (M := M_X12_side) dX12_side_5 rfl ?_
  refine x_iload_n (M := M_X12_side) dX12_side_6 rfl ?_
  refine x_callSR (M := M_X12_side) (M' := M_X12_isPoint) rfl rfl dX12_side_7 m_X12_isPoint t_3154 t_3155 (q4351 hl c0 c1) rfl rfl (Nat.le_of_ble_eq_true rfl) (Nat.le_of_ble_eq_true rfl) (Nat.le_of_ble_eq_true rfl) (Nat.le_of_ble_eq_true rfl) ?_
  refine x_if_eq (M := M_X12_side) (tgt := 27) dX12_side_10 (by decide) (fun q => absurd q (by decide +kernel)) (fun _ => ?_)
  refine x_iload_n (M := M_X12_side) dX12_side_13 rfl ?_
  refine x_callSR (M := M_X12_side) (M' := M_X12_isPoint) rfl rfl dX12_side_14 m_X12_isPoint t_3154 t_3155 (q6574 hl c2 c3) rfl rfl (Nat.le_of_ble_eq_true rfl) (Nat.le_of_ble_eq_true rfl) (Nat.le_of_ble_eq_true rfl) (Nat.le_of_ble_eq_true rfl) ?_
  refine x_if_eq (M := M_X12_side) (tgt := 27) dX12_side_17 (by decide) (fun q => absurd q (by decide +kernel)) (fun _ => ?_)
  refine x_iload_n (M := M_X12_side) dX12_side_20 rfl ?_
  refine x_callSR (M := M_X12_side) (M' := M_X12_isPoint) rfl rfl dX12_side_21 m_X12_isPoint t_3154 t_3155 (q8153 hl c4 c5) rfl rfl (Nat.le_of_ble_eq_true rfl) (Nat.le_of_ble_eq_true rfl) (Nat.le_of_ble_eq_true rfl) (Nat.le_of_ble_eq_true rfl) ?_
  refine x_if_ne (M := M_X12_side) (tgt := 31) dX12_side_24 (by decide) (fun q => absurd q (by decide +kernel)) (fun _ => ?_)
  refine x_iconst (M := M_X12_side) dX12_side_27 ?_
  refine x_goto (M := M_X12_side) (tgt := 32) dX12_side_28 (by decide) ?_
  refine x_iconst (M := M_X12_side) dX12_side_32 ?_
  refine y_callVR (M := M_X12_side) (M' := M_X12_fails) rfl rfl dX12_side_33 m_X12_fails t_2805 t_2807 s_157 (q22 hl w8151) rfl rfl w8151 rfl (Nat.le_of_ble_eq_true rfl) (Nat.le_of_ble_eq_true rfl) (Nat.le_of_ble_eq_true rfl) (Nat.le_of_ble_eq_true rfl) (fun h8154 f8155 w8156 => ?_)
  obtain ⟨o8157, -⟩ := w8156
  refine x_if_eq (M := M_X12_side) (tgt := 41) dX12_side_36 (by decide) (fun q => absurd q (by decide +kernel)) (fun _ => ?_)
  refine x_iconst (M := M_X12_side) dX12_side_39 ?_
  exact x_iret (M := M_X12_side) dX12_side_40 rfl ⟨rfl, (fr_tr f8155 (by decide) (fr_tr f8152 (by decide) fr_rf)), ⟨o8157, trivial⟩⟩ (Nat.le_of_ble_eq_true rfl) (Nat.le_of_ble_eq_true rfl)
set_option maxRecDepth 10000 in
theorem lc30_4 {l : Launch} {E : EE} (hl : l.stackTraces = false) (nm : String) {xs : Nat → Int32} (hx : E.2.2.2.2 0 = some (7, xs)) {h : HP} {a0 : Int32} {a1 : Int32} {a2 : Int32} {dg : Int32} (e2 : xs 2 = a0) (e3 : xs 3 = a1) (e4 : xs 4 = a2) (c0 : ¬ (a0.toInt < 0)) (c1 : a0.toInt < 32) (c2 : ¬ (a1.toInt < 0)) (c3 : a1.toInt < 32) (c4 : ¬ (a2.toInt < 0)) (c5 : ¬ (a2.toInt < 32)) (o8145 : ob h 32 = some (.inr (14, [.ref 33, .ref 162, .ref 166, .int (0 : Int32), .int (0 : Int32), .int (0 : Int32), .ref 167, .ref 170, .ref 173, .ref 177, .ref 193, .ref 208, .ref 222, .ref 238, .ref 252, .ref 274, .ref 275, .ref 276, .int (0 : Int32)]))) (o8159 : ob h 277 = some (.inr (15, (RB dg)))) : XX l E (M_law nm) 1312 342628 8074320 (fun o _ => o = .inl (some (.int 1))) 2277 [some (.ref 0), some (.ref 32), some (.ref 277), some (.ref 359), some (.int (Int32.ofInt 1)), none, none, none] [] h 328 2463747 := by
  refine x_aload_n (M := (M_law nm)) dL_law_2277 rfl ?_
  refine x_aload_n (M := (M_law nm)) dL_law_2278 rfl ?_
  refine x_iload (M := (M_law nm)) dL_law_2279 rfl ?_
  refine x_iconst (M := (M_law nm)) dL_law_2281 ?_
  refine x_iadd (M := (M_law nm)) dL_law_2282 ?_
  refine x_sald (M := (M_law nm)) dL_law_2283 (by decide) hx (vp_inD (by decide +kernel)) ?_
  refine x_top (M := (M_law nm)) (y := a0) ((congrArg xs (by decide +kernel : ((Int32.ofInt 1) + (Int32.ofInt 1)).toNatClampNeg = 2)).trans e2) ?_
  refine x_aload_n (M := (M_law nm)) dL_law_2284 rfl ?_
  refine x_iload (M := (M_law nm)) dL_law_2285 rfl ?_
  refine x_iconst (M := (M_law nm)) dL_law_2287 ?_
  refine x_iadd (M := (M_law nm)) dL_law_2288 ?_
  refine x_sald (M := (M_law nm)) dL_law_2289 (by decide) hx (vp_inD (by decide +kernel)) ?_
  refine x_top (M := (M_law nm)) (y := a1) ((congrArg xs (by decide +kernel : ((Int32.ofInt 1) + (Int32.ofInt 2)).toNatClampNeg = 3)).trans e3) ?_
  refine x_aload_n (M := (M_law nm)) dL_law_2290 rfl ?_
  refine x_iload (M := (M_law nm)) dL_law_2291 rfl ?_
  refine x_iconst (M := (M_law nm)) dL_law_2293 ?_
  refine x_iadd (M := (M_law nm)) dL_law_2294 ?_
  refine x_sald (M := (M_law nm)) dL_law_2295 (by decide) hx (vp_inD (by decide +kernel)) ?_
  refine x_top (M := (M_law nm)) (y := a2) ((congrArg xs (by decide +kernel : ((Int32.ofInt 1) + (Int32.ofInt 3)).toNatClampNeg = 4)).trans e4) ?_
  refine x_aload_n (M := (M_law nm)) dL_law_2296 rfl ?_
  refine y_callSW (M := (M_law nm)) (M' := M_L_side) rfl rfl dL_law_2297 m_L_side t_2316 t_2317 (q8144 hl c0 c1 c2 c3 c4 c5 o8145) rfl rfl (Nat.le_of_ble_eq_true rfl) (Nat.le_of_ble_eq_true rfl) (Nat.le_of_ble_eq_true rfl) (Nat.le_of_ble_eq_true rfl) (fun h8146 f8147 w8148 => ?_)
  refine x_istore (M := (M_law nm)) dL_law_2300 (Nat.le_of_ble_eq_true rfl) rfl ?_
  refine x_aload_n (M := (M_law nm)) dL_law_2302 rfl ?_
  refine x_aload_n (M := (M_law nm)) dL_law_2303 rfl ?_
  refine x_iload (M := (M_law nm)) dL_law_2304 rfl ?_
  refine x_iconst (M := (M_law nm)) dL_law_2306 ?_
  refine x_iadd (M := (M_law nm)) dL_law_2307 ?_
  refine x_sald (M := (M_law nm)) dL_law_2308 (by decide) hx (vp_inD (by decide +kernel)) ?_
  refine x_top (M := (M_law nm)) (y := a0) ((congrArg xs (by decide +kernel : ((Int32.ofInt 1) + (Int32.ofInt 1)).toNatClampNeg = 2)).trans e2) ?_
  refine x_aload_n (M := (M_law nm)) dL_law_2309 rfl ?_
  refine x_iload (M := (M_law nm)) dL_law_2310 rfl ?_
  refine x_iconst (M := (M_law nm)) dL_law_2312 ?_
  refine x_iadd (M := (M_law nm)) dL_law_2313 ?_
  refine x_sald (M := (M_law nm)) dL_law_2314 (by decide) hx (vp_inD (by decide +kernel)) ?_
  refine x_top (M := (M_law nm)) (y := a1) ((congrArg xs (by decide +kernel : ((Int32.ofInt 1) + (Int32.ofInt 2)).toNatClampNeg = 3)).trans e3) ?_
  refine x_aload_n (M := (M_law nm)) dL_law_2315 rfl ?_
  refine x_iload (M := (M_law nm)) dL_law_2316 rfl ?_
  refine x_iconst (M := (M_law nm)) dL_law_2318 ?_
  refine x_iadd (M := (M_law nm)) dL_law_2319 ?_
  refine x_sald (M := (M_law nm)) dL_law_2320 (by decide) hx (vp_inD (by decide +kernel)) ?_
  refine x_top (M := (M_law nm)) (y := a2) ((congrArg xs (by decide +kernel : ((Int32.ofInt 1) + (Int32.ofInt 3)).toNatClampNeg = 4)).trans e4) ?_
  have o8160 := (f8147 277 _ (by decide) o8159)
  refine y_callVR (M := (M_law nm)) (M' := M_X12_side) rfl rfl dL_law_2321 m_X12_side t_3157 t_3158 t_3159 (q8158 hl c0 c1 c2 c3 c4 c5 o8160) rfl rfl o8160 rfl (Nat.le_of_ble_eq_true rfl) (Nat.le_of_ble_eq_true rfl) (Nat.le_of_ble_eq_true rfl) (Nat.le_of_ble_eq_true rfl) (fun h8161 f8162 w8163 => ?_)
  obtain ⟨o8164, -⟩ := w8163
  refine x_istore (M := (M_law nm)) dL_law_2324 (Nat.le_of_ble_eq_true rfl) rfl ?_
  refine x_aload_n (M := (M_law nm)) dL_law_2326 rfl ?_
  refine x_callVR (M := (M_law nm)) (M' := M_X12_thrown) rfl rfl dL_law_2327 m_X12_thrown t_2797 t_2798 t_2799 (q35 hl o8164) rfl rfl o8164 rfl (Nat.le_of_ble_eq_true rfl) (Nat.le_of_ble_eq_true rfl) (Nat.le_of_ble_eq_true rfl) (Nat.le_of_ble_eq_true rfl) ?_
  refine x_iload (M := (M_law nm)) dL_law_2330 rfl ?_
  refine x_icmp_eq (M := (M_law nm)) (tgt := 2337) dL_law_2332 (by decide) (fun _ => ?_) (fun q => absurd q (by decide +kernel))
  refine x_iload (M := (M_law nm)) dL_law_2337 rfl ?_
  refine x_if_ne (M := (M_law nm)) (tgt := 2354) dL_law_2339 (by decide) (fun _ => ?_) (fun q => absurd q (by decide +kernel))
  refine x_goto (M := (M_law nm)) (tgt := 2449) dL_law_2354 (by decide) ?_
  refine x_iinc (M := (M_law nm)) dL_law_2449 rfl (Nat.le_of_ble_eq_true rfl) rfl ?_
  refine x_lvs (M := (M_law nm)) (lv' := [some (.ref 0), some (.ref 32), some (.ref 277), some (.ref 359), some (.int (Int32.ofInt 7)), some (.int (Int32.ofInt 1)), some (.int (Int32.ofInt 0)), none]) (by rw [(by decide +kernel : (Int32.ofInt 1) + Int32.ofInt 6 = (Int32.ofInt 7))] <;> rfl) ?_
  refine x_goto (M := (M_law nm)) (tgt := 33) dL_law_2452 (by decide) ?_
  refine x_iload (M := (M_law nm)) dL_law_33 rfl ?_
  refine x_aload_n (M := (M_law nm)) dL_law_35 rfl ?_
  refine x_slen (M := (M_law nm)) dL_law_36 (by decide) hx ?_
  refine x_bipush (M := (M_law nm)) dL_law_37 ?_
  refine x_isub (M := (M_law nm)) dL_law_39 ?_
  refine x_icmp_gt (M := (M_law nm)) (tgt := 2455) dL_law_40 (by decide) (fun _ => ?_) (fun q => absurd q (by decide +kernel))
  refine x_iconst (M := (M_law nm)) dL_law_2455 ?_
  exact x_zret (M := (M_law nm)) dL_law_2456 rfl (by decide) rfl (Nat.le_of_ble_eq_true rfl) (Nat.le_of_ble_eq_true rfl)
set_option maxRecDepth 10000 in
theorem q8165 {l : Launch} {E : EE} (hl : l.stackTraces = false) {h : HP} {a1 : Int32} (c0 : ¬ (a1.toInt < 0)) (c1 : ¬ (a1.toInt < 32)) : en_C l E M_X11_isNoSignPoint 0 0 0 [.int a1] h (pR (some (.int (Int32.ofInt 1))) h) := by
  refine en_mk m_X11_isNoSignPoint rfl hl (Nat.le_of_ble_eq_true rfl) ?_
  refine x_iload_n (M := M_X11_isNoSignPoint) dX11_isNoSignPoint_0 rfl ?_
  refine x_if_lt (M := M_X11_isNoSignPoint) (tgt := 10) dX11_isNoSignPoint_1 (by decide) (fun q => absurd ((bi_lt rfl (by decide +kernel)).mp q) (by omega : ¬ (a1.toInt < 0))) (fun _ => ?_)
  refine x_iload_n (M := M_X11_isNoSignPoint) dX11_isNoSignPoint_4 rfl ?_
  refine x_bipush (M := M_X11_isNoSignPoint) dX11_isNoSignPoint_5 ?_
  refine x_icmp_lt (M := M_X11_isNoSignPoint) (tgt := 14) dX11_isNoSignPoint_7 (by decide) (fun q => absurd ((bi_lt rfl (by decide +kernel)).mp q) (by omega : ¬ (a1.toInt < 32))) (fun _ => ?_)
  refine x_iconst (M := M_X11_isNoSignPoint) dX11_isNoSignPoint_10 ?_
  refine x_goto (M := M_X11_isNoSignPoint) (tgt := 15) dX11_isNoSignPoint_11 (by decide) ?_
  exact x_zret (M := M_X11_isNoSignPoint) dX11_isNoSignPoint_15 rfl (by decide) ⟨rfl, rfl⟩ (Nat.le_of_ble_eq_true rfl) (Nat.le_of_ble_eq_true rfl)
set_option maxRecDepth 10000 in
theorem q8167 {l : Launch} {E : EE} (hl : l.stackTraces = false) {h : HP} {a0 : Int32} {a1 : Int32} {a2 : Int32} (c0 : ¬ (a0.toInt < 0)) (c1 : a0.toInt < 32) (c2 : ¬ (a1.toInt < 0)) (c3 : ¬ (a1.toInt < 32)) : en_C l E M_X11_side 6 1 6 [.ref 32, .int a0, .int a1, .int a2] h (pT "java/lang/IndexOutOfBoundsException" [] h (fun _ => True)) := by
  refine en_mk m_X11_side rfl hl (Nat.le_of_ble_eq_true rfl) ?_
  refine x_iload_n (M := M_X11_side) dX11_side_0 rfl ?_
  refine x_callSR (M := M_X11_side) (M' := M_X11_isNoSignPoint) rfl rfl dX11_side_1 m_X11_isNoSignPoint t_2309 t_2310 (q4334 hl c0 c1) rfl rfl (Nat.le_of_ble_eq_true rfl) (Nat.le_of_ble_eq_true rfl) (Nat.le_of_ble_eq_true rfl) (Nat.le_of_ble_eq_true rfl) ?_
  refine x_if_ne (M := M_X11_side) (tgt := 21) dX11_side_4 (by decide) (fun q => absurd q (by decide +kernel)) (fun _ => ?_)
  refine x_iload_n (M := M_X11_side) dX11_side_7 rfl ?_
  refine x_callSR (M := M_X11_side) (M' := M_X11_isNoSignPoint) rfl rfl dX11_side_8 m_X11_isNoSignPoint t_2309 t_2310 (q8165 hl c2 c3) rfl rfl (Nat.le_of_ble_eq_true rfl) (Nat.le_of_ble_eq_true rfl) (Nat.le_of_ble_eq_true rfl) (Nat.le_of_ble_eq_true rfl) ?_
  refine x_if_ne (M := M_X11_side) (tgt := 21) dX11_side_11 (by decide) (fun _ => ?_) (fun q => absurd q (by decide +kernel))
  exact x_throw (M := M_X11_side) (names := en_nm) rfl dX11_side_21 dX11_side_24 dX11_side_25 dX11_side_28 (by decide +kernel) en_nm_ok (Or.inl t_748) (Or.inl t_22) (at_X11_IndexOutOfBoundsException_139) (Nat.le_of_ble_eq_true rfl) (Nat.le_of_ble_eq_true rfl) (Nat.le_of_ble_eq_true rfl) (Nat.le_of_ble_eq_true rfl) (fun n9 => ⟨rfl, (fr_tr (fr_app (List.replicate n9 none)) (fun _ h => nomatch h) fr_rf), trivial⟩)
set_option maxRecDepth 10000 in
theorem q8172 {l : Launch} {E : EE} (hl : l.stackTraces = false) {h : HP} {a0 : Int32} {a1 : Int32} {a2 : Int32} (c0 : ¬ (a0.toInt < 0)) (c1 : a0.toInt < 32) (c2 : ¬ (a1.toInt < 0)) (c3 : ¬ (a1.toInt < 32)) (o8168 : ob h 32 = some (.inr (14, [.ref 33, .ref 162, .ref 166, .int (0 : Int32), .int (0 : Int32), .int (0 : Int32), .ref 167, .ref 170, .ref 173, .ref 177, .ref 193, .ref 208, .ref 222, .ref 238, .ref 252, .ref 274, .ref 275, .ref 276, .int (0 : Int32)]))) : en_C l E M_L_side 7 1 6 [.ref 32, .int a0, .int a1, .int a2, .ref 359] h (pF (some (.int (Int32.ofInt 1))) [] h (fun _ => True)) := by
  refine en_mkW m_L_side rfl hl (Nat.le_of_ble_eq_true rfl) ?_
  refine x_aload (M := M_L_side) dL_side_0 rfl ?_
  refine x_iconst (M := M_L_side) dL_side_2 ?_
  refine x_aload_n (M := M_L_side) dL_side_3 rfl ?_
  refine x_iload_n (M := M_L_side) dL_side_4 rfl ?_
  refine x_iload_n (M := M_L_side) dL_side_5 rfl ?_
  refine x_iload_n (M := M_L_side) dL_side_6 rfl ?_
  refine y_callVHX (M := M_L_side) (M' := M_X11_side) (i9 := 5) (nx := 17) rfl dL_side_7 m_X11_side t_2319 t_2320 t_2321 o8168 rfl (q8167 hl c0 c1 c2 c3) rfl rfl (Nat.le_of_ble_eq_true rfl) (Nat.le_of_ble_eq_true rfl) (Nat.le_of_ble_eq_true rfl) (Nat.le_of_ble_eq_true rfl) (en_hdm (k0 := 5) [] [] rfl (fun _ h => nomatch h) (by decide +kernel) (by decide) t_739 n_750 dL_side_15) (by decide) rfl (fun h8169 f8170 w8171 => ?_)
  refine x_iconst (M := M_L_side) dL_side_17 ?_
  exact x_iret (M := M_L_side) dL_side_18 rfl ⟨rfl, (fr_tr f8170 (fun _ h => nomatch h) fr_rf), trivial⟩ (Nat.le_of_ble_eq_true rfl) (Nat.le_of_ble_eq_true rfl)
set_option maxRecDepth 10000 in
theorem q8181 {l : Launch} {E : EE} (hl : l.stackTraces = false) {h : HP} {a1 : Int32} (c0 : ¬ (a1.toInt < 0)) (c1 : ¬ (a1.toInt < 32)) : en_C l E M_X12_isPoint 0 0 0 [.int a1] h (pR (some (.int (Int32.ofInt 0))) h) := by
  refine en_mk m_X12_isPoint rfl hl (Nat.le_of_ble_eq_true rfl) ?_
  refine x_iload_n (M := M_X12_isPoint) dX12_isPoint_0 rfl ?_
  refine x_if_lt (M := M_X12_isPoint) (tgt := 14) dX12_isPoint_1 (by decide) (fun q => absurd ((bi_lt rfl (by decide +kernel)).mp q) (by omega : ¬ (a1.toInt < 0))) (fun _ => ?_)
  refine x_iload_n (M := M_X12_isPoint) dX12_isPoint_4 rfl ?_
  refine x_bipush (M := M_X12_isPoint) dX12_isPoint_5 ?_
  refine x_icmp_ge (M := M_X12_isPoint) (tgt := 14) dX12_isPoint_7 (by decide) (fun _ => ?_) (fun q => absurd ((bi_le (by decide +kernel) rfl).mpr (by omega : (32 ≤ a1.toInt : Prop))) q)
  refine x_iconst (M := M_X12_isPoint) dX12_isPoint_14 ?_
  exact x_zret (M := M_X12_isPoint) dX12_isPoint_15 rfl (by decide) ⟨rfl, rfl⟩ (Nat.le_of_ble_eq_true rfl) (Nat.le_of_ble_eq_true rfl)
set_option maxRecDepth 10000 in
theorem q8186 {l : Launch} {E : EE} (hl : l.stackTraces = false) {h : HP} {a0 : Int32} {a1 : Int32} {a2 : Int32} {dg : Int32} (c0 : ¬ (a0.toInt < 0)) (c1 : a0.toInt < 32) (c2 : ¬ (a1.toInt < 0)) (c3 : ¬ (a1.toInt < 32)) (o8177 : ob h 277 = some (.inr (15, (RB dg)))) : en_C l E M_X12_side 1 0 0 [.ref 277, .int a0, .int a1, .int a2] h (pF (some (.int (Int32.ofInt 0))) [277] h (fun h' => ob h' 277 = some (.inr (15, ((RB dg).set 0 (.int (Int32.ofInt 1))))) ∧ True)) := by
  refine en_mk m_X12_side rfl hl (Nat.le_of_ble_eq_true rfl) ?_
  refine x_aload_n (M := M_X12_side) dX12_side_0 rfl ?_
  refine x_iconst (M := M_X12_side) dX12_side_1 ?_
  refine y_put (M := M_X12_side) (ci := 15) (C := RX12) (T := TX12) (N := 135) (ty := tyX12) cl15 dX12_side_2 o8177 0 (by decide) t_2391 (Or.inl rfl) (Nat.le_of_ble_eq_true rfl) rfl (fun h8178 w8179 f8180 => ?_)
  refine x_aload_n (M := M_X12_side) dX12_side_5 rfl ?_
  refine x_iload_n (M := M_X12_side) dX12_side_6 rfl ?_
  refine x_callSR (M := M_X12_side) (M' := M_X12_isPoint) rfl rfl dX12_side_7 m_X12_isPoint t_3154 t_3155 (q4351 hl c0 c1) rfl rfl (Nat.le_of_ble_eq_true rfl) (Nat.le_of_ble_eq_true rfl) (Nat.le_of_ble_eq_true rfl) (Nat.le_of_ble_eq_true rfl) ?_
  refine x_if_eq (M := M_X12_side) (tgt := 27) dX12_side_10 (by decide) (fun q => absurd q (by decide +kernel)) (fun _ => ?_)
  refine x_iload_n (M := M_X12_side) dX12_side_13 rfl ?_
  refine x_callSR (M := M_X12_side) (M' := M_X12_isPoint) rfl rfl dX12_side_14 m_X12_isPoint t_3154 t_3155 (q8181 hl c2 c3) rfl rfl (Nat.le_of_ble_eq_true rfl) (Nat.le_of_ble_eq_true rfl) (Nat.le_of_ble_eq_true rfl) (Nat.le_of_ble_eq_true rfl) ?_
  refine x_if_eq (M := M_X12_side) (tgt := 27) dX12_side_17 (by decide) (fun _ => ?_) (fun q => absurd q (by decide +kernel))
  refine x_iconst (M := M_X12_side) dX12_side_27 ?_
  refine x_goto (M := M_X12_side) (tgt := 32) dX12_side_28 (by decide) ?_
  refine x_iconst (M := M_X12_side) dX12_side_32 ?_
  refine y_callVR (M := M_X12_side) (M' := M_X12_fails) rfl rfl dX12_side_33 m_X12_fails t_2805 t_2807 s_157 (q22 hl w8179) rfl rfl w8179 rfl (Nat.le_of_ble_eq_true rfl) (Nat.le_of_ble_eq_true rfl) (Nat.le_of_ble_eq_true rfl) (Nat.le_of_ble_eq_true rfl) (fun h8182 f8183 w8184 => ?_)
  obtain ⟨o8185, -⟩ := w8184
  refine x_if_eq (M := M_X12_side) (tgt := 41) dX12_side_36 (by decide) (fun q => absurd q (by decide +kernel)) (fun _ => ?_)
  refine x_iconst (M := M_X12_side) dX12_side_39 ?_
  exact x_iret (M := M_X12_side) dX12_side_40 rfl ⟨rfl, (fr_tr f8183 (by decide) (fr_tr f8180 (by decide) fr_rf)), ⟨o8185, trivial⟩⟩ (Nat.le_of_ble_eq_true rfl) (Nat.le_of_ble_eq_true rfl)
set_option maxRecDepth 10000 in
theorem lc30_5 {l : Launch} {E : EE} (hl : l.stackTraces = false) (nm : String) {xs : Nat → Int32} (hx : E.2.2.2.2 0 = some (7, xs)) {h : HP} {a0 : Int32} {a1 : Int32} {a2 : Int32} {dg : Int32} (e2 : xs 2 = a0) (e3 : xs 3 = a1) (e4 : xs 4 = a2) (c0 : ¬ (a0.toInt < 0)) (c1 : a0.toInt < 32) (c2 : ¬ (a1.toInt < 0)) (c3 : ¬ (a1.toInt < 32)) (o8173 : ob h 32 = some (.inr (14, [.ref 33, .ref 162, .ref 166, .int (0 : Int32), .int (0 : Int32), .int (0 : Int32), .ref 167, .ref 170, .ref 173, .ref 177, .ref 193, .ref 208, .ref 222, .ref 238, .ref 252, .ref 274, .ref 275, .ref 276, .int (0 : Int32)]))) (o8187 : ob h 277 = some (.inr (15, (RB dg)))) : XX l E (M_law nm) 1312 342628 8074320 (fun o _ => o = .inl (some (.int 1))) 2277 [some (.ref 0), some (.ref 32), some (.ref 277), some (.ref 359), some (.int (Int32.ofInt 1)), none, none, none] [] h 328 2463747 := by
  refine x_aload_n (M := (M_law nm)) dL_law_2277 rfl ?_
  refine x_aload_n (M := (M_law nm)) dL_law_2278 rfl ?_
  refine x_iload (M := (M_law nm)) dL_law_2279 rfl ?_
  refine x_iconst (M := (M_law nm)) dL_law_2281 ?_
  refine x_iadd (M := (M_law nm)) dL_law_2282 ?_
  refine x_sald (M := (M_law nm)) dL_law_2283 (by decide) hx (vp_inD (by decide +kernel)) ?_
  refine x_top (M := (M_law nm)) (y := a0) ((congrArg xs (by decide +kernel : ((Int32.ofInt 1) + (Int32.ofInt 1)).toNatClampNeg = 2)).trans e2) ?_
  refine x_aload_n (M := (M_law nm)) dL_law_2284 rfl ?_
  refine x_iload (M := (M_law nm)) dL_law_2285 rfl ?_
  refine x_iconst (M := (M_law nm)) dL_law_2287 ?_
  refine x_iadd (M := (M_law nm)) dL_law_2288 ?_
  refine x_sald (M := (M_law nm)) dL_law_2289 (by decide) hx (vp_inD (by decide +kernel)) ?_
  refine x_top (M := (M_law nm)) (y := a1) ((congrArg xs (by decide +kernel : ((Int32.ofInt 1) + (Int32.ofInt 2)).toNatClampNeg = 3)).trans e3) ?_
  refine x_aload_n (M := (M_law nm)) dL_law_2290 rfl ?_
  refine x_iload (M := (M_law nm)) dL_law_2291 rfl ?_
  refine x_iconst (M := (M_law nm)) dL_law_2293 ?_
  refine x_iadd (M := (M_law nm)) dL_law_2294 ?_
  refine x_sald (M := (M_law nm)) dL_law_2295 (by decide) hx (vp_inD (by decide +kernel)) ?_
  refine x_top (M := (M_law nm)) (y := a2) ((congrArg xs (by decide +kernel : ((Int32.ofInt 1) + (Int32.ofInt 3)).toNatClampNeg = 4)).trans e4) ?_
  refine x_aload_n (M := (M_law nm)) dL_law_2296 rfl ?_
  refine y_callSW (M := (M_law nm)) (M' := M_L_side) rfl rfl dL_law_2297 m_L_side t_2316 t_2317 (q8172 hl c0 c1 c2 c3 o8173) rfl rfl (Nat.le_of_ble_eq_true rfl) (Nat.le_of_ble_eq_true rfl) (Nat.le_of_ble_eq_true rfl) (Nat.le_of_ble_eq_true rfl) (fun h8174 f8175 w8176 => ?_)
  refine x_istore (M := (M_law nm)) dL_law_2300 (Nat.le_of_ble_eq_true rfl) rfl ?_
  refine x_aload_n (M := (M_law nm)) dL_law_2302 rfl ?_
  refine x_aload_n (M := (M_law nm)) dL_law_2303 rfl ?_
  refine x_iload (M := (M_law nm)) dL_law_2304 rfl ?_
  refine x_iconst (M := (M_law nm)) dL_law_2306 ?_
  refine x_iadd (M := (M_law nm)) dL_law_2307 ?_
  refine x_sald (M := (M_law nm)) dL_law_2308 (by decide) hx (vp_inD (by decide +kernel)) ?_
  refine x_top (M := (M_law nm)) (y := a0) ((congrArg xs (by decide +kernel : ((Int32.ofInt 1) + (Int32.ofInt 1)).toNatClampNeg = 2)).trans e2) ?_
  refine x_aload_n (M := (M_law nm)) dL_law_2309 rfl ?_
  refine x_iload (M := (M_law nm)) dL_law_2310 rfl ?_
  refine x_iconst (M := (M_law nm)) dL_law_2312 ?_
  refine x_iadd (M := (M_law nm)) dL_law_2313 ?_
  refine x_sald (M := (M_law nm)) dL_law_2314 (by decide) hx (vp_inD (by decide +kernel)) ?_
  refine x_top (M := (M_law nm)) (y := a1) ((congrArg xs (by decide +kernel : ((Int32.ofInt 1) + (Int32.ofInt 2)).toNatClampNeg = 3)).trans e3) ?_
  refine x_aload_n (M := (M_law nm)) dL_law_2315 rfl ?_
  refine x_iload (M := (M_law nm)) dL_law_2316 rfl ?_
  refine x_iconst (M := (M_law nm)) dL_law_2318 ?_
  refine x_iadd (M := (M_law nm)) dL_law_2319 ?_
  refine x_sald (M := (M_law nm)) dL_law_2320 (by decide) hx (vp_inD (by decide +kernel)) ?_
  refine x_top (M := (M_law nm)) (y := a2) ((congrArg xs (by decide +kernel : ((Int32.ofInt 1) + (Int32.ofInt 3)).toNatClampNeg = 4)).trans e4) ?_
  have o8188 := (f8175 277 _ (by decide) o8187)
  refine y_callVR (M := (M_law nm)) (M' := M_X12_side) rfl rfl dL_law_2321 m_X12_side t_3157 t_3158 t_3159 (q8186 hl c0 c1 c2 c3 o8188) rfl rfl o8188 rfl (Nat.le_of_ble_eq_true rfl) (Nat.le_of_ble_eq_true rfl) (Nat.le_of_ble_eq_true rfl) (Nat.le_of_ble_eq_true rfl) (fun h8189 f8190 w8191 => ?_)
  obtain ⟨o8192, -⟩ := w8191
  refine x_istore (M := (M_law nm)) dL_law_2324 (Nat.le_of_ble_eq_true rfl) rfl ?_
  refine x_aload_n (M := (M_law nm)) dL_law_2326 rfl ?_
  refine x_callVR (M := (M_law nm)) (M' := M_X12_thrown) rfl rfl dL_law_2327 m_X12_thrown t_2797 t_2798 t_2799 (q35 hl o8192) rfl rfl o8192 rfl (Nat.le_of_ble_eq_true rfl) (Nat.le_of_ble_eq_true rfl) (Nat.le_of_ble_eq_true rfl) (Nat.le_of_ble_eq_true rfl) ?_
  refine x_iload (M := (M_law nm)) dL_law_2330 rfl ?_
  refine x_icmp_eq (M := (M_law nm)) (tgt := 2337) dL_law_2332 (by decide) (fun _ => ?_) (fun q => absurd q (by decide +kernel))
  refine x_iload (M := (M_law nm)) dL_law_2337 rfl ?_
  refine x_if_ne (M := (M_law nm)) (tgt := 2354) dL_law_2339 (by decide) (fun _ => ?_) (fun q => absurd q (by decide +kernel))
  refine x_goto (M := (M_law nm)) (tgt := 2449) dL_law_2354 (by decide) ?_
  refine x_iinc (M := (M_law nm)) dL_law_2449 rfl (Nat.le_of_ble_eq_true rfl) rfl ?_
  refine x_lvs (M := (M_law nm)) (lv' := [some (.ref 0), some (.ref 32), some (.ref 277), some (.ref 359), some (.int (Int32.ofInt 7)), some (.int (Int32.ofInt 1)), some (.int (Int32.ofInt 0)), none]) (by rw [(by decide +kernel : (Int32.ofInt 1) + Int32.ofInt 6 = (Int32.ofInt 7))] <;> rfl) ?_
  refine x_goto (M := (M_law nm)) (tgt := 33) dL_law_2452 (by decide) ?_
  refine x_iload (M := (M_law nm)) dL_law_33 rfl ?_
  refine x_aload_n (M := (M_law nm)) dL_law_35 rfl ?_
  refine x_slen (M := (M_law nm)) dL_law_36 (by decide) hx ?_
  refine x_bipush (M := (M_law nm)) dL_law_37 ?_
  refine x_isub (M := (M_law nm)) dL_law_39 ?_
  refine x_icmp_gt (M := (M_law nm)) (tgt := 2455) dL_law_40 (by decide) (fun _ => ?_) (fun q => absurd q (by decide +kernel))
  refine x_iconst (M := (M_law nm)) dL_law_2455 ?_
  exact x_zret (M := (M_law nm)) dL_law_2456 rfl (by decide) rfl (Nat.le_of_ble_eq_true rfl) (Nat.le_of_ble_eq_true rfl)
set_option maxRecDepth 10000 in
theorem q8194 {l : Launch} {E : EE} (hl : l.stackTraces = false) {h : HP} {a0 : Int32} {a1 : Int32} {a2 : Int32} (c0 : ¬ (a0.toInt < 0)) (c1 : ¬ (a0.toInt < 32)) : en_C l E M_X11_side 6 1 6 [.ref 32, .int a0, .int a1, .int a2] h (pT "java/lang/IndexOutOfBoundsException" [] h (fun _ => True)) := by
  refine en_mk m_X11_side rfl hl (Nat.le_of_ble_eq_true rfl) ?_
  refine x_iload_n (M := M_X11_side) dX11_side_0 rfl ?_
  refine x_callSR (M := M_X11_side) (M' := M_X11_isNoSignPoint) rfl rfl dX11_side_1 m_X11_isNoSignPoint t_2309 t_2310 (q4476 hl c0 c1) rfl rfl (Nat.le_of_ble_eq_true rfl) (Nat.le_of_ble_eq_true rfl) (Nat.le_of_ble_eq_true rfl) (Nat.le_of_ble_eq_true rfl) ?_
  refine x_if_ne (M := M_X11_side) (tgt := 21) dX11_side_4 (by decide) (fun _ => ?_) (fun q => absurd q (by decide +kernel))
  exact x_throw (M := M_X11_side) (names := en_nm) rfl dX11_side_21 dX11_side_24 dX11_side_25 dX11_side_28 (by decide +kernel) en_nm_ok (Or.inl t_748) (Or.inl t_22) (at_X11_IndexOutOfBoundsException_139) (Nat.le_of_ble_eq_true rfl) (Nat.le_of_ble_eq_true rfl) (Nat.le_of_ble_eq_true rfl) (Nat.le_of_ble_eq_true rfl) (fun n9 => ⟨rfl, (fr_tr (fr_app (List.replicate n9 none)) (fun _ h => nomatch h) fr_rf), trivial⟩)
set_option maxRecDepth 10000 in
theorem q8199 {l : Launch} {E : EE} (hl : l.stackTraces = false) {h : HP} {a0 : Int32} {a1 : Int32} {a2 : Int32} (c0 : ¬ (a0.toInt < 0)) (c1 : ¬ (a0.toInt < 32)) (o8195 : ob h 32 = some (.inr (14, [.ref 33, .ref 162, .ref 166, .int (0 : Int32), .int (0 : Int32), .int (0 : Int32), .ref 167, .ref 170, .ref 173, .ref 177, .ref 193, .ref 208, .ref 222, .ref 238, .ref 252, .ref 274, .ref 275, .ref 276, .int (0 : Int32)]))) : en_C l E M_L_side 7 1 6 [.ref 32, .int a0, .int a1, .int a2, .ref 359] h (pF (some (.int (Int32.ofInt 1))) [] h (fun _ => True)) := by
  refine en_mkW m_L_side rfl hl (Nat.le_of_ble_eq_true rfl) ?_
  refine x_aload (M := M_L_side) dL_side_0 rfl ?_
  refine x_iconst (M := M_L_side) dL_side_2 ?_
  refine x_aload_n (M := M_L_side) dL_side_3 rfl ?_
  refine x_iload_n (M := M_L_side) dL_side_4 rfl ?_
  refine x_iload_n (M := M_L_side) dL_side_5 rfl ?_
  refine x_iload_n (M := M_L_side) dL_side_6 rfl ?_
  refine y_callVHX (M := M_L_side) (M' := M_X11_side) (i9 := 5) (nx := 17) rfl dL_side_7 m_X11_side t_2319 t_2320 t_2321 o8195 rfl (q8194 hl c0 c1) rfl rfl (Nat.le_of_ble_eq_true rfl) (Nat.le_of_ble_eq_true rfl) (Nat.le_of_ble_eq_true rfl) (Nat.le_of_ble_eq_true rfl) (en_hdm (k0 := 5) [] [] rfl (fun _ h => nomatch h) (by decide +kernel) (by decide) t_739 n_750 dL_side_15) (by decide) rfl (fun h8196 f8197 w8198 => ?_)
  refine x_iconst (M := M_L_side) dL_side_17 ?_
  exact x_iret (M := M_L_side) dL_side_18 rfl ⟨rfl, (fr_tr f8197 (fun _ h => nomatch h) fr_rf), trivial⟩ (Nat.le_of_ble_eq_true rfl) (Nat.le_of_ble_eq_true rfl)
set_option maxRecDepth 10000 in
theorem q8212 {l : Launch} {E : EE} (hl : l.stackTraces = false) {h : HP} {a0 : Int32} {a1 : Int32} {a2 : Int32} {dg : Int32} (c0 : ¬ (a0.toInt < 0)) (c1 : ¬ (a0.toInt < 32)) (o8204 : ob h 277 = some (.inr (15, (RB dg)))) : en_C l E M_X12_side 1 0 0 [.ref 277, .int a0, .int a1, .int a2] h (pF (some (.int (Int32.ofInt 0))) [277] h (fun h' => ob h' 277 = some (.inr (15, ((RB dg).set 0 (.int (Int32.ofInt 1))))) ∧ True)) := by
  refine en_mk m_X12_side rfl hl (Nat.le_of_ble_eq_true rfl) ?_
  refine x_aload_n (M := M_X12_side) dX12_side_0 rfl ?_
  refine x_iconst (M := M_X12_side) dX12_side_1 ?_
  refine y_put (M := M_X12_side) (ci := 15) (C := RX12) (T := TX12) (N := 135) (ty := tyX12) cl15 dX12_side_2 o8204 0 (by decide) t_2391 (Or.inl rfl) (Nat.le_of_ble_eq_true rfl) rfl (fun h8205 w8206 f8207 => ?_)
  refine x_aload_n (M := M_X12_side) dX12_side_5 rfl ?_
  refine x_iload_n (M := M_X12_side) dX12_side_6 rfl ?_
  refine x_callSR (M := M_X12_side) (M' := M_X12_isPoint) rfl rfl dX12_side_7 m_X12_isPoint t_3154 t_3155 (q4500 hl c0 c1) rfl rfl (Nat.le_of_ble_eq_true rfl) (Nat.le_of_ble_eq_true rfl) (Nat.le_of_ble_eq_true rfl) (Nat.le_of_ble_eq_true rfl) ?_
  refine x_if_eq (M := M_X12_side) (tgt := 27) dX12_side_10 (by decide) (fun _ => ?_) (fun q => absurd q (by decide +kernel))
  refine x_iconst (M := M_X12_side) dX12_side_27 ?_
  refine x_goto (M := M_X12_side) (tgt := 32) dX12_side_28 (by decide) ?_
  refine x_iconst (M := M_X12_side) dX12_side_32 ?_
  refine y_callVR (M := M_X12_side) (M' := M_X12_fails) rfl rfl dX12_side_33 m_X12_fails t_2805 t_2807 s_157 (q22 hl w8206) rfl rfl w8206 rfl (Nat.le_of_ble_eq_true rfl) (Nat.le_of_ble_eq_true rfl) (Nat.le_of_ble_eq_true rfl) (Nat.le_of_ble_eq_true rfl) (fun h8208 f8209 w8210 => ?_)
  obtain ⟨o8211, -⟩ := w8210
  refine x_if_eq (M := M_X12_side) (tgt := 41) dX12_side_36 (by decide) (fun q => absurd q (by decide +kernel)) (fun _ => ?_)
  refine x_iconst (M := M_X12_side) dX12_side_39 ?_
  exact x_iret (M := M_X12_side) dX12_side_40 rfl ⟨rfl, (fr_tr f8209 (by decide) (fr_tr f8207 (by decide) fr_rf)), ⟨o8211, trivial⟩⟩ (Nat.le_of_ble_eq_true rfl) (Nat.le_of_ble_eq_true rfl)
set_option maxRecDepth 10000 in
theorem lc30_6 {l : Launch} {E : EE} (hl : l.stackTraces = false) (nm : String) {xs : Nat → Int32} (hx : E.2.2.2.2 0 = some (7, xs)) {h : HP} {a0 : Int32} {a1 : Int32} {a2 : Int32} {dg : Int32} (e2 : xs 2 = a0) (e3 : xs 3 = a1) (e4 : xs 4 = a2) (c0 : ¬ (a0.toInt < 0)) (c1 : ¬ (a0.toInt < 32)) (o8200 : ob h 32 = some (.inr (14, [.ref 33, .ref 162, .ref 166, .int (0 : Int32), .int (0 : Int32), .int (0 : Int32), .ref 167, .ref 170, .ref 173, .ref 177, .ref 193, .ref 208, .ref 222, .ref 238, .ref 252, .ref 274, .ref 275, .ref 276, .int (0 : Int32)]))) (o8213 : ob h 277 = some (.inr (15, (RB dg)))) : XX l E (M_law nm) 1312 342628 8074320 (fun o _ => o = .inl (some (.int 1))) 2277 [some (.ref 0), some (.ref 32), some (.ref 277), some (.ref 359), some (.int (Int32.ofInt 1)), none, none, none] [] h 328 2463747 := by
  refine x_aload_n (M := (M_law nm)) dL_law_2277 rfl ?_
  refine x_aload_n (M := (M_law nm)) dL_law_2278 rfl ?_
  refine x_iload (M := (M_law nm)) dL_law_2279 rfl ?_
  refine x_iconst (M := (M_law nm)) dL_law_2281 ?_
  refine x_iadd (M := (M_law nm)) dL_law_2282 ?_
  refine x_sald (M := (M_law nm)) dL_law_2283 (by decide) hx (vp_inD (by decide +kernel)) ?_
  refine x_top (M := (M_law nm)) (y := a0) ((congrArg xs (by decide +kernel : ((Int32.ofInt 1) + (Int32.ofInt 1)).toNatClampNeg = 2)).trans e2) ?_
  refine x_aload_n (M := (M_law nm)) dL_law_2284 rfl ?_
  refine x_iload (M := (M_law nm)) dL_law_2285 rfl ?_
  refine x_iconst (M := (M_law nm)) dL_law_2287 ?_
  refine x_iadd (M := (M_law nm)) dL_law_2288 ?_
  refine x_sald (M := (M_law nm)) dL_law_2289 (by decide) hx (vp_inD (by decide +kernel)) ?_
  refine x_top (M := (M_law nm)) (y := a1) ((congrArg xs (by decide +kernel : ((Int32.ofInt 1) + (Int32.ofInt 2)).toNatClampNeg = 3)).trans e3) ?_
  refine x_aload_n (M := (M_law nm)) dL_law_2290 rfl ?_
  refine x_iload (M := (M_law nm)) dL_law_2291 rfl ?_
  refine x_iconst (M := (M_law nm)) dL_law_2293 ?_
  refine x_iadd (M := (M_law nm)) dL_law_2294 ?_
  refine x_sald (M := (M_law nm)) dL_law_2295 (by decide) hx (vp_inD (by decide +kernel)) ?_
  refine x_top (M := (M_law nm)) (y := a2) ((congrArg xs (by decide +kernel : ((Int32.ofInt 1) + (Int32.ofInt 3)).toNatClampNeg = 4)).trans e4) ?_
  refine x_aload_n (M := (M_law nm)) dL_law_2296 rfl ?_
  refine y_callSW (M := (M_law nm)) (M' := M_L_side) rfl rfl dL_law_2297 m_L_side t_2316 t_2317 (q8199 hl c0 c1 o8200) rfl rfl (Nat.le_of_ble_eq_true rfl) (Nat.le_of_ble_eq_true rfl) (Nat.le_of_ble_eq_true rfl) (Nat.le_of_ble_eq_true rfl) (fun h8201 f8202 w8203 => ?_)
  refine x_istore (M := (M_law nm)) dL_law_2300 (Nat.le_of_ble_eq_true rfl) rfl ?_
  refine x_aload_n (M := (M_law nm)) dL_law_2302 rfl ?_
  refine x_aload_n (M := (M_law nm)) dL_law_2303 rfl ?_
  refine x_iload (M := (M_law nm)) dL_law_2304 rfl ?_
  refine x_iconst (M := (M_law nm)) dL_law_2306 ?_
  refine x_iadd (M := (M_law nm)) dL_law_2307 ?_
  refine x_sald (M := (M_law nm)) dL_law_2308 (by decide) hx (vp_inD (by decide +kernel)) ?_
  refine x_top (M := (M_law nm)) (y := a0) ((congrArg xs (by decide +kernel : ((Int32.ofInt 1) + (Int32.ofInt 1)).toNatClampNeg = 2)).trans e2) ?_
  refine x_aload_n (M := (M_law nm)) dL_law_2309 rfl ?_
  refine x_iload (M := (M_law nm)) dL_law_2310 rfl ?_
  refine x_iconst (M := (M_law nm)) dL_law_2312 ?_
  refine x_iadd (M := (M_law nm)) dL_law_2313 ?_
  refine x_sald (M := (M_law nm)) dL_law_2314 (by decide) hx (vp_inD (by decide +kernel)) ?_
  refine x_top (M := (M_law nm)) (y := a1) ((congrArg xs (by decide +kernel : ((Int32.ofInt 1) + (Int32.ofInt 2)).toNatClampNeg = 3)).trans e3) ?_
  refine x_aload_n (M := (M_law nm)) dL_law_2315 rfl ?_
  refine x_iload (M := (M_law nm)) dL_law_2316 rfl ?_
  refine x_iconst (M := (M_law nm)) dL_law_2318 ?_
  refine x_iadd (M := (M_law nm)) dL_law_2319 ?_
  refine x_sald (M := (M_law nm)) dL_law_2320 (by decide) hx (vp_inD (by decide +kernel)) ?_
  refine x_top (M := (M_law nm)) (y := a2) ((congrArg xs (by decide +kernel : ((Int32.ofInt 1) + (Int32.ofInt 3)).toNatClampNeg = 4)).trans e4) ?_
  have o8214 := (f8202 277 _ (by decide) o8213)
  refine y_callVR (M := (M_law nm)) (M' := M_X12_side) rfl rfl dL_law_2321 m_X12_side t_3157 t_3158 t_3159 (q8212 hl c0 c1 o8214) rfl rfl o8214 rfl (Nat.le_of_ble_eq_true rfl) (Nat.le_of_ble_eq_true rfl) (Nat.le_of_ble_eq_true rfl) (Nat.le_of_ble_eq_true rfl) (fun h8215 f8216 w8217 => ?_)
  obtain ⟨o8218, -⟩ := w8217
  refine x_istore (M := (M_law nm)) dL_law_2324 (Nat.le_of_ble_eq_true rfl) rfl ?_
  refine x_aload_n (M := (M_law nm)) dL_law_2326 rfl ?_
  refine x_callVR (M := (M_law nm)) (M' := M_X12_thrown) rfl rfl dL_law_2327 m_X12_thrown t_2797 t_2798 t_2799 (q35 hl o8218) rfl rfl o8218 rfl (Nat.le_of_ble_eq_true rfl) (Nat.le_of_ble_eq_true rfl) (Nat.le_of_ble_eq_true rfl) (Nat.le_of_ble_eq_true rfl) ?_
  refine x_iload (M := (M_law nm)) dL_law_2330 rfl ?_
  refine x_icmp_eq (M := (M_law nm)) (tgt := 2337) dL_law_2332 (by decide) (fun _ => ?_) (fun q => absurd q (by decide +kernel))
  refine x_iload (M := (M_law nm)) dL_law_2337 rfl ?_
  refine x_if_ne (M := (M_law nm)) (tgt := 2354) dL_law_2339 (by decide) (fun _ => ?_) (fun q => absurd q (by decide +kernel))
  refine x_goto (M := (M_law nm)) (tgt := 2449) dL_law_2354 (by decide) ?_
  refine x_iinc (M := (M_law nm)) dL_law_2449 rfl (Nat.le_of_ble_eq_true rfl) rfl ?_
  refine x_lvs (M := (M_law nm)) (lv' := [some (.ref 0), some (.ref 32), some (.ref 277), some (.ref 359), some (.int (Int32.ofInt 7)), some (.int (Int32.ofInt 1)), some (.int (Int32.ofInt 0)), none]) (by rw [(by decide +kernel : (Int32.ofInt 1) + Int32.ofInt 6 = (Int32.ofInt 7))] <;> rfl) ?_
  refine x_goto (M := (M_law nm)) (tgt := 33) dL_law_2452 (by decide) ?_
  refine x_iload (M := (M_law nm)) dL_law_33 rfl ?_
  refine x_aload_n (M := (M_law nm)) dL_law_35 rfl ?_
  refine x_slen (M := (M_law nm)) dL_law_36 (by decide) hx ?_
  refine x_bipush (M := (M_law nm)) dL_law_37 ?_
  refine x_isub (M := (M_law nm)) dL_law_39 ?_
  refine x_icmp_gt (M := (M_law nm)) (tgt := 2455) dL_law_40 (by decide) (fun _ => ?_) (fun q => absurd q (by decide +kernel))
  refine x_iconst (M := (M_law nm)) dL_law_2455 ?_
  exact x_zret (M := (M_law nm)) dL_law_2456 rfl (by decide) rfl (Nat.le_of_ble_eq_true rfl) (Nat.le_of_ble_eq_true rfl)
theorem lop30 {l : Launch} {E : EE} (hl : l.stackTraces = false) (nm : String) {xs : Nat → Int32} (hx : E.2.2.2.2 0 = some (7, xs)) (dg : Int32) : XX l E (M_law nm) 1312 342628 8074320 (fun o _ => o = .inl (some (.int 1))) 2277 [some (.ref 0), some (.ref 32), some (.ref 277), some (.ref 359), some (.int (Int32.ofInt 1)), none, none, none] [] (HH dg) 328 2463747 := by
  obtain ⟨a0, e2⟩ : ∃ a : Int32, xs 2 = a := ⟨_, rfl⟩
  obtain ⟨a1, e3⟩ : ∃ a : Int32, xs 3 = a := ⟨_, rfl⟩
  obtain ⟨a2, e4⟩ : ∃ a : Int32, xs 4 = a := ⟨_, rfl⟩
  obtain ⟨a3, e5⟩ : ∃ a : Int32, xs 5 = a := ⟨_, rfl⟩
  obtain ⟨a4, e6⟩ : ∃ a : Int32, xs 6 = a := ⟨_, rfl⟩
  by_cases c0 : a0.toInt < 0
  · exact lc30_0 hl nm hx e2 e3 e4 c0 (o_32 dg) (o_277b dg)
  · by_cases c1 : a0.toInt < 32
    · by_cases c2 : a1.toInt < 0
      · exact lc30_1 hl nm hx e2 e3 e4 c0 c1 c2 (o_32 dg) (o_277b dg)
      · by_cases c3 : a1.toInt < 32
        · by_cases c4 : a2.toInt < 0
          · exact lc30_2 hl nm hx e2 e3 e4 c0 c1 c2 c3 c4 (o_32 dg) (o_277b dg)
          · by_cases c5 : a2.toInt < 32
            · exact lc30_3 hl nm hx e2 e3 e4 c0 c1 c2 c3 c4 c5 (o_32 dg) (o_252 dg) (o_253 dg) (o_255 dg) (o_256 dg) (o_272 dg) (o_273 dg) (o_257 dg) (o_258 dg) (o_254 dg) (o_259 dg) (o_260 dg) (o_261 dg) (o_262 dg) (o_263 dg) (o_264 dg) (o_359 dg) (o_277b dg) (oMR (dg := dg) (k := 19) rfl) (oMR (dg := dg) (k := 16) rfl) (oMR (dg := dg) (k := 17) rfl) (oMR (dg := dg) (k := 18) rfl) (oMR (dg := dg) (k := 20) rfl)
            · exact lc30_4 hl nm hx e2 e3 e4 c0 c1 c2 c3 c4 c5 (o_32 dg) (o_277b dg)
        · exact lc30_5 hl nm hx e2 e3 e4 c0 c1 c2 c3 (o_32 dg) (o_277b dg)
    · exact lc30_6 hl nm hx e2 e3 e4 c0 c1 (o_32 dg) (o_277b dg)
end CAS
