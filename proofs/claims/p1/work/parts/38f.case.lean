section CAS
theorem dL_point_0 : decode cL_point 0 = .ok (.aload_n 0, 1) := by decide +kernel
theorem dL_point_1 : decode cL_point 1 = .ok (.iload_n 1, 1) := by decide +kernel
theorem dL_point_2 : decode cL_point 2 = .ok (.lload_n 2, 1) := by decide +kernel
theorem dL_point_3 : decode cL_point 3 = .ok (.lload 4, 2) := by decide +kernel
theorem dL_point_5 : decode cL_point 5 = .ok (.invokevirtual 110, 3) := by decide +kernel
theorem dL_point_8 : decode cL_point 8 = .ok (.goto 11, 3) := by decide +kernel
theorem dL_point_11 : decode cL_point 11 = .ok (.astore 6, 2) := by decide +kernel
theorem dL_point_13 : decode cL_point 13 = .ok (.iconst 1, 1) := by decide +kernel
theorem dL_point_14 : decode cL_point 14 = .ok (.ireturn, 1) := by decide +kernel
theorem dL_point_15 : decode cL_point 15 = .ok (.astore 6, 2) := by decide +kernel
theorem dL_point_17 : decode cL_point 17 = .ok (.iconst 2, 1) := by decide +kernel
theorem dL_point_18 : decode cL_point 18 = .ok (.ireturn, 1) := by decide +kernel
theorem dL_point_19 : decode cL_point 19 = .ok (.iconst 0, 1) := by decide +kernel
theorem dL_point_20 : decode cL_point 20 = .ok (.ireturn, 1) := by decide +kernel
theorem dX11_point_0 : decode cX11_point 0 = .ok (.iload_n 1, 1) := by decide +kernel
theorem dX11_point_1 : decode cX11_point 1 = .ok (.invokestatic 325, 3) := by decide +kernel
theorem dX11_point_4 : decode cX11_point 4 = .ok (.ifCond .eq 11, 3) := by decide +kernel
theorem dX11_point_7 : decode cX11_point 7 = .ok (.new 137, 3) := by decide +kernel
theorem dX11_point_10 : decode cX11_point 10 = .ok (.dup, 1) := by decide +kernel
theorem dX11_point_11 : decode cX11_point 11 = .ok (.invokespecial 139, 3) := by decide +kernel
theorem dX11_point_14 : decode cX11_point 14 = .ok (.athrow, 1) := by decide +kernel
theorem dX11_point_15 : decode cX11_point 15 = .ok (.lload_n 2, 1) := by decide +kernel
theorem dX11_point_16 : decode cX11_point 16 = .ok (.invokestatic 328, 3) := by decide +kernel
theorem dX11_point_19 : decode cX11_point 19 = .ok (.ifCond .ne 11, 3) := by decide +kernel
theorem dX11_point_22 : decode cX11_point 22 = .ok (.lload 4, 2) := by decide +kernel
theorem dX11_point_24 : decode cX11_point 24 = .ok (.invokestatic 328, 3) := by decide +kernel
theorem dX11_point_27 : decode cX11_point 27 = .ok (.ifCond .eq 11, 3) := by decide +kernel
theorem dX11_point_30 : decode cX11_point 30 = .ok (.new 116, 3) := by decide +kernel
theorem dX11_point_33 : decode cX11_point 33 = .ok (.dup, 1) := by decide +kernel
theorem dX11_point_34 : decode cX11_point 34 = .ok (.invokespecial 118, 3) := by decide +kernel
theorem dX11_point_37 : decode cX11_point 37 = .ok (.athrow, 1) := by decide +kernel
theorem dX11_point_38 : decode cX11_point 38 = .ok (.aload_n 0, 1) := by decide +kernel
theorem dX11_point_39 : decode cX11_point 39 = .ok (.getfield 90, 3) := by decide +kernel
theorem dX11_point_42 : decode cX11_point 42 = .ok (.getfield 332, 3) := by decide +kernel
theorem dX11_point_45 : decode cX11_point 45 = .ok (.iload_n 1, 1) := by decide +kernel
theorem dX11_point_46 : decode cX11_point 46 = .ok (.lload_n 2, 1) := by decide +kernel
theorem dX11_point_47 : decode cX11_point 47 = .ok (.lastore, 1) := by decide +kernel
theorem dX11_point_48 : decode cX11_point 48 = .ok (.aload_n 0, 1) := by decide +kernel
theorem dX11_point_49 : decode cX11_point 49 = .ok (.getfield 90, 3) := by decide +kernel
theorem dX11_point_52 : decode cX11_point 52 = .ok (.getfield 334, 3) := by decide +kernel
theorem dX11_point_55 : decode cX11_point 55 = .ok (.iload_n 1, 1) := by decide +kernel
theorem dX11_point_56 : decode cX11_point 56 = .ok (.lload 4, 2) := by decide +kernel
theorem dX11_point_58 : decode cX11_point 58 = .ok (.lastore, 1) := by decide +kernel
theorem dX11_point_59 : decode cX11_point 59 = .ok (.return_, 1) := by decide +kernel
theorem dX11_isNoSignPoint_0 : decode cX11_isNoSignPoint 0 = .ok (.iload_n 0, 1) := by decide +kernel
theorem dX11_isNoSignPoint_1 : decode cX11_isNoSignPoint 1 = .ok (.ifCond .lt 9, 3) := by decide +kernel
theorem dX11_isNoSignPoint_4 : decode cX11_isNoSignPoint 4 = .ok (.iload_n 0, 1) := by decide +kernel
theorem dX11_isNoSignPoint_5 : decode cX11_isNoSignPoint 5 = .ok (.bipush 32, 2) := by decide +kernel
theorem dX11_isNoSignPoint_7 : decode cX11_isNoSignPoint 7 = .ok (.if_icmp .lt 7, 3) := by decide +kernel
theorem dX11_isNoSignPoint_10 : decode cX11_isNoSignPoint 10 = .ok (.iconst 1, 1) := by decide +kernel
theorem dX11_isNoSignPoint_11 : decode cX11_isNoSignPoint 11 = .ok (.goto 4, 3) := by decide +kernel
theorem dX11_isNoSignPoint_14 : decode cX11_isNoSignPoint 14 = .ok (.iconst 0, 1) := by decide +kernel
theorem dX11_isNoSignPoint_15 : decode cX11_isNoSignPoint 15 = .ok (.ireturn, 1) := by decide +kernel
theorem dX12_point_0 : decode cX12_point 0 = .ok (.aload_n 0, 1) := by decide +kernel
theorem dX12_point_1 : decode cX12_point 1 = .ok (.iconst 0, 1) := by decide +kernel
theorem dX12_point_2 : decode cX12_point 2 = .ok (.putfield 271, 3) := by decide +kernel
theorem dX12_point_5 : decode cX12_point 5 = .ok (.lload_n 2, 1) := by decide +kernel
theorem dX12_point_6 : decode cX12_point 6 = .ok (.bipush 52, 2) := by decide +kernel
theorem dX12_point_8 : decode cX12_point 8 = .ok (.lushr, 1) := by decide +kernel
theorem dX12_point_9 : decode cX12_point 9 = .ok (.ldc2_w 497, 3) := by decide +kernel
theorem dX12_point_12 : decode cX12_point 12 = .ok (.land, 1) := by decide +kernel
theorem dX12_point_13 : decode cX12_point 13 = .ok (.ldc2_w 497, 3) := by decide +kernel
theorem dX12_point_16 : decode cX12_point 16 = .ok (.lcmp, 1) := by decide +kernel
theorem dX12_point_17 : decode cX12_point 17 = .ok (.ifCond .eq 19, 3) := by decide +kernel
theorem dX12_point_20 : decode cX12_point 20 = .ok (.lload 4, 2) := by decide +kernel
theorem dX12_point_22 : decode cX12_point 22 = .ok (.bipush 52, 2) := by decide +kernel
theorem dX12_point_24 : decode cX12_point 24 = .ok (.lushr, 1) := by decide +kernel
theorem dX12_point_25 : decode cX12_point 25 = .ok (.ldc2_w 497, 3) := by decide +kernel
theorem dX12_point_28 : decode cX12_point 28 = .ok (.land, 1) := by decide +kernel
theorem dX12_point_29 : decode cX12_point 29 = .ok (.ldc2_w 497, 3) := by decide +kernel
theorem dX12_point_32 : decode cX12_point 32 = .ok (.lcmp, 1) := by decide +kernel
theorem dX12_point_33 : decode cX12_point 33 = .ok (.ifCond .ne 7, 3) := by decide +kernel
theorem dX12_point_36 : decode cX12_point 36 = .ok (.iconst 1, 1) := by decide +kernel
theorem dX12_point_37 : decode cX12_point 37 = .ok (.goto 4, 3) := by decide +kernel
theorem dX12_point_40 : decode cX12_point 40 = .ok (.iconst 0, 1) := by decide +kernel
theorem dX12_point_41 : decode cX12_point 41 = .ok (.istore 6, 2) := by decide +kernel
theorem dX12_point_43 : decode cX12_point 43 = .ok (.aload_n 0, 1) := by decide +kernel
theorem dX12_point_44 : decode cX12_point 44 = .ok (.iload_n 1, 1) := by decide +kernel
theorem dX12_point_45 : decode cX12_point 45 = .ok (.invokestatic 625, 3) := by decide +kernel
theorem dX12_point_48 : decode cX12_point 48 = .ok (.ifCond .ne 7, 3) := by decide +kernel
theorem dX12_point_51 : decode cX12_point 51 = .ok (.iconst 1, 1) := by decide +kernel
theorem dX12_point_52 : decode cX12_point 52 = .ok (.goto 4, 3) := by decide +kernel
theorem dX12_point_55 : decode cX12_point 55 = .ok (.iconst 0, 1) := by decide +kernel
theorem dX12_point_56 : decode cX12_point 56 = .ok (.iconst 1, 1) := by decide +kernel
theorem dX12_point_57 : decode cX12_point 57 = .ok (.invokevirtual 277, 3) := by decide +kernel
theorem dX12_point_60 : decode cX12_point 60 = .ok (.ifCond .ne 13, 3) := by decide +kernel
theorem dX12_point_63 : decode cX12_point 63 = .ok (.aload_n 0, 1) := by decide +kernel
theorem dX12_point_64 : decode cX12_point 64 = .ok (.iload 6, 2) := by decide +kernel
theorem dX12_point_66 : decode cX12_point 66 = .ok (.iconst 2, 1) := by decide +kernel
theorem dX12_point_67 : decode cX12_point 67 = .ok (.invokevirtual 277, 3) := by decide +kernel
theorem dX12_point_70 : decode cX12_point 70 = .ok (.ifCond .eq 4, 3) := by decide +kernel
theorem dX12_point_73 : decode cX12_point 73 = .ok (.return_, 1) := by decide +kernel
theorem dX12_point_74 : decode cX12_point 74 = .ok (.aload_n 0, 1) := by decide +kernel
theorem dX12_point_75 : decode cX12_point 75 = .ok (.getfield 72, 3) := by decide +kernel
theorem dX12_point_78 : decode cX12_point 78 = .ok (.iload_n 1, 1) := by decide +kernel
theorem dX12_point_79 : decode cX12_point 79 = .ok (.lload_n 2, 1) := by decide +kernel
theorem dX12_point_80 : decode cX12_point 80 = .ok (.lastore, 1) := by decide +kernel
theorem dX12_point_81 : decode cX12_point 81 = .ok (.aload_n 0, 1) := by decide +kernel
theorem dX12_point_82 : decode cX12_point 82 = .ok (.getfield 75, 3) := by decide +kernel
theorem dX12_point_85 : decode cX12_point 85 = .ok (.iload_n 1, 1) := by decide +kernel
theorem dX12_point_86 : decode cX12_point 86 = .ok (.lload 4, 2) := by decide +kernel
theorem dX12_point_88 : decode cX12_point 88 = .ok (.lastore, 1) := by decide +kernel
theorem dX12_point_89 : decode cX12_point 89 = .ok (.return_, 1) := by decide +kernel
theorem dX12_isPoint_0 : decode cX12_isPoint 0 = .ok (.iload_n 0, 1) := by decide +kernel
theorem dX12_isPoint_1 : decode cX12_isPoint 1 = .ok (.ifCond .lt 13, 3) := by decide +kernel
theorem dX12_isPoint_4 : decode cX12_isPoint 4 = .ok (.iload_n 0, 1) := by decide +kernel
theorem dX12_isPoint_5 : decode cX12_isPoint 5 = .ok (.bipush 32, 2) := by decide +kernel
theorem dX12_isPoint_7 : decode cX12_isPoint 7 = .ok (.if_icmp .ge 7, 3) := by decide +kernel
theorem dX12_isPoint_10 : decode cX12_isPoint 10 = .ok (.iconst 1, 1) := by decide +kernel
theorem dX12_isPoint_11 : decode cX12_isPoint 11 = .ok (.goto 4, 3) := by decide +kernel
theorem dX12_isPoint_14 : decode cX12_isPoint 14 = .ok (.iconst 0, 1) := by decide +kernel
theorem dX12_isPoint_15 : decode cX12_isPoint 15 = .ok (.ireturn, 1) := by decide +kernel
theorem dX11_isNoNumber_0 : decode cX11_isNoNumber 0 = .ok (.lload_n 0, 1) := by decide +kernel
theorem dX11_isNoNumber_1 : decode cX11_isNoNumber 1 = .ok (.bipush 52, 2) := by decide +kernel
theorem dX11_isNoNumber_3 : decode cX11_isNoNumber 3 = .ok (.lushr, 1) := by decide +kernel
theorem dX11_isNoNumber_4 : decode cX11_isNoNumber 4 = .ok (.ldc2_w 336, 3) := by decide +kernel
theorem dX11_isNoNumber_7 : decode cX11_isNoNumber 7 = .ok (.land, 1) := by decide +kernel
theorem dX11_isNoNumber_8 : decode cX11_isNoNumber 8 = .ok (.ldc2_w 336, 3) := by decide +kernel
theorem dX11_isNoNumber_11 : decode cX11_isNoNumber 11 = .ok (.lcmp, 1) := by decide +kernel
theorem dX11_isNoNumber_12 : decode cX11_isNoNumber 12 = .ok (.ifCond .ne 7, 3) := by decide +kernel
theorem dX11_isNoNumber_15 : decode cX11_isNoNumber 15 = .ok (.iconst 1, 1) := by decide +kernel
theorem dX11_isNoNumber_16 : decode cX11_isNoNumber 16 = .ok (.goto 4, 3) := by decide +kernel
theorem dX11_isNoNumber_19 : decode cX11_isNoNumber 19 = .ok (.iconst 0, 1) := by decide +kernel
theorem dX11_isNoNumber_20 : decode cX11_isNoNumber 20 = .ok (.ireturn, 1) := by decide +kernel
theorem dL_count_0 : decode cL_count 0 = .ok (.aload_n 3, 1) := by decide +kernel
theorem dL_count_1 : decode cL_count 1 = .ok (.iconst 0, 1) := by decide +kernel
theorem dL_count_2 : decode cL_count 2 = .ok (.aload_n 0, 1) := by decide +kernel
theorem dL_count_3 : decode cL_count 3 = .ok (.iload_n 1, 1) := by decide +kernel
theorem dL_count_4 : decode cL_count 4 = .ok (.iload_n 2, 1) := by decide +kernel
theorem dL_count_5 : decode cL_count 5 = .ok (.invokevirtual 107, 3) := by decide +kernel
theorem dL_count_8 : decode cL_count 8 = .ok (.i2l, 1) := by decide +kernel
theorem dL_count_9 : decode cL_count 9 = .ok (.lastore, 1) := by decide +kernel
theorem dL_count_10 : decode cL_count 10 = .ok (.goto 7, 3) := by decide +kernel
theorem dL_count_13 : decode cL_count 13 = .ok (.astore 4, 2) := by decide +kernel
theorem dL_count_15 : decode cL_count 15 = .ok (.iconst 1, 1) := by decide +kernel
theorem dL_count_16 : decode cL_count 16 = .ok (.ireturn, 1) := by decide +kernel
theorem dL_count_17 : decode cL_count 17 = .ok (.iconst 0, 1) := by decide +kernel
theorem dL_count_18 : decode cL_count 18 = .ok (.ireturn, 1) := by decide +kernel
theorem dX11_count_0 : decode cX11_count 0 = .ok (.aload_n 0, 1) := by decide +kernel
theorem dX11_count_1 : decode cX11_count 1 = .ok (.iload_n 1, 1) := by decide +kernel
theorem dX11_count_2 : decode cX11_count 2 = .ok (.invokevirtual 140, 3) := by decide +kernel
theorem dX11_count_5 : decode cX11_count 5 = .ok (.astore_n 3, 1) := by decide +kernel
theorem dX11_count_6 : decode cX11_count 6 = .ok (.iload_n 2, 1) := by decide +kernel
theorem dX11_count_7 : decode cX11_count 7 = .ok (.tableswitch 70 0 5 #[37, 42, 47, 52, 60, 65], 37) := by decide +kernel
theorem dX11_count_44 : decode cX11_count 44 = .ok (.aload_n 3, 1) := by decide +kernel
theorem dX11_count_45 : decode cX11_count 45 = .ok (.getfield 195, 3) := by decide +kernel
theorem dX11_count_48 : decode cX11_count 48 = .ok (.ireturn, 1) := by decide +kernel
theorem dX11_count_49 : decode cX11_count 49 = .ok (.aload_n 3, 1) := by decide +kernel
theorem dX11_count_50 : decode cX11_count 50 = .ok (.getfield 201, 3) := by decide +kernel
theorem dX11_count_53 : decode cX11_count 53 = .ok (.ireturn, 1) := by decide +kernel
theorem dX11_count_54 : decode cX11_count 54 = .ok (.aload_n 0, 1) := by decide +kernel
theorem dX11_count_55 : decode cX11_count 55 = .ok (.getfield 105, 3) := by decide +kernel
theorem dX11_count_58 : decode cX11_count 58 = .ok (.ireturn, 1) := by decide +kernel
theorem dX11_count_59 : decode cX11_count 59 = .ok (.aload_n 0, 1) := by decide +kernel
theorem dX11_count_60 : decode cX11_count 60 = .ok (.getfield 46, 3) := by decide +kernel
theorem dX11_count_63 : decode cX11_count 63 = .ok (.getfield 119, 3) := by decide +kernel
theorem dX11_count_66 : decode cX11_count 66 = .ok (.ireturn, 1) := by decide +kernel
theorem dX11_count_67 : decode cX11_count 67 = .ok (.aload_n 0, 1) := by decide +kernel
theorem dX11_count_68 : decode cX11_count 68 = .ok (.invokevirtual 210, 3) := by decide +kernel
theorem dX11_count_71 : decode cX11_count 71 = .ok (.ireturn, 1) := by decide +kernel
theorem dX11_count_72 : decode cX11_count 72 = .ok (.aload_n 0, 1) := by decide +kernel
theorem dX11_count_73 : decode cX11_count 73 = .ok (.getfield 213, 3) := by decide +kernel
theorem dX11_count_76 : decode cX11_count 76 = .ok (.ireturn, 1) := by decide +kernel
theorem dX11_count_77 : decode cX11_count 77 = .ok (.new 137, 3) := by decide +kernel
theorem dX11_count_80 : decode cX11_count 80 = .ok (.dup, 1) := by decide +kernel
theorem dX11_count_81 : decode cX11_count 81 = .ok (.invokespecial 139, 3) := by decide +kernel
theorem dX11_count_84 : decode cX11_count 84 = .ok (.athrow, 1) := by decide +kernel
theorem dX12_count_0 : decode cX12_count 0 = .ok (.aload_n 0, 1) := by decide +kernel
theorem dX12_count_1 : decode cX12_count 1 = .ok (.iconst 0, 1) := by decide +kernel
theorem dX12_count_2 : decode cX12_count 2 = .ok (.putfield 271, 3) := by decide +kernel
theorem dX12_count_5 : decode cX12_count 5 = .ok (.aload_n 0, 1) := by decide +kernel
theorem dX12_count_6 : decode cX12_count 6 = .ok (.iload_n 1, 1) := by decide +kernel
theorem dX12_count_7 : decode cX12_count 7 = .ok (.invokestatic 440, 3) := by decide +kernel
theorem dX12_count_10 : decode cX12_count 10 = .ok (.ifCond .eq 15, 3) := by decide +kernel
theorem dX12_count_13 : decode cX12_count 13 = .ok (.iload_n 2, 1) := by decide +kernel
theorem dX12_count_14 : decode cX12_count 14 = .ok (.i2l, 1) := by decide +kernel
theorem dX12_count_15 : decode cX12_count 15 = .ok (.lconst 0, 1) := by decide +kernel
theorem dX12_count_16 : decode cX12_count 16 = .ok (.ldc2_w 573, 3) := by decide +kernel
theorem dX12_count_19 : decode cX12_count 19 = .ok (.invokestatic 287, 3) := by decide +kernel
theorem dX12_count_22 : decode cX12_count 22 = .ok (.ifCond .ne 7, 3) := by decide +kernel
theorem dX12_count_25 : decode cX12_count 25 = .ok (.iconst 1, 1) := by decide +kernel
theorem dX12_count_26 : decode cX12_count 26 = .ok (.goto 4, 3) := by decide +kernel
theorem dX12_count_29 : decode cX12_count 29 = .ok (.iconst 0, 1) := by decide +kernel
theorem dX12_count_30 : decode cX12_count 30 = .ok (.iconst 1, 1) := by decide +kernel
theorem dX12_count_31 : decode cX12_count 31 = .ok (.invokevirtual 277, 3) := by decide +kernel
theorem dX12_count_34 : decode cX12_count 34 = .ok (.ifCond .eq 5, 3) := by decide +kernel
theorem dX12_count_37 : decode cX12_count 37 = .ok (.iconst 0, 1) := by decide +kernel
theorem dX12_count_38 : decode cX12_count 38 = .ok (.ireturn, 1) := by decide +kernel
theorem dX12_count_39 : decode cX12_count 39 = .ok (.iload_n 2, 1) := by decide +kernel
theorem dX12_count_40 : decode cX12_count 40 = .ok (.tableswitch 97 0 4 #[36, 43, 50, 55, 60], 36) := by decide +kernel
theorem dX12_count_76 : decode cX12_count 76 = .ok (.aload_n 0, 1) := by decide +kernel
theorem dX12_count_77 : decode cX12_count 77 = .ok (.getfield 18, 3) := by decide +kernel
theorem dX12_count_80 : decode cX12_count 80 = .ok (.iload_n 1, 1) := by decide +kernel
theorem dX12_count_81 : decode cX12_count 81 = .ok (.iaload, 1) := by decide +kernel
theorem dX12_count_82 : decode cX12_count 82 = .ok (.ireturn, 1) := by decide +kernel
theorem dX12_count_83 : decode cX12_count 83 = .ok (.aload_n 0, 1) := by decide +kernel
theorem dX12_count_84 : decode cX12_count 84 = .ok (.getfield 26, 3) := by decide +kernel
theorem dX12_count_87 : decode cX12_count 87 = .ok (.iload_n 1, 1) := by decide +kernel
theorem dX12_count_88 : decode cX12_count 88 = .ok (.iaload, 1) := by decide +kernel
theorem dX12_count_89 : decode cX12_count 89 = .ok (.ireturn, 1) := by decide +kernel
theorem dX12_count_90 : decode cX12_count 90 = .ok (.aload_n 0, 1) := by decide +kernel
theorem dX12_count_91 : decode cX12_count 91 = .ok (.getfield 274, 3) := by decide +kernel
theorem dX12_count_94 : decode cX12_count 94 = .ok (.ireturn, 1) := by decide +kernel
theorem dX12_count_95 : decode cX12_count 95 = .ok (.aload_n 0, 1) := by decide +kernel
theorem dX12_count_96 : decode cX12_count 96 = .ok (.getfield 291, 3) := by decide +kernel
theorem dX12_count_99 : decode cX12_count 99 = .ok (.ireturn, 1) := by decide +kernel
theorem dX12_count_100 : decode cX12_count 100 = .ok (.iconst 0, 1) := by decide +kernel
theorem dX12_count_101 : decode cX12_count 101 = .ok (.istore_n 3, 1) := by decide +kernel
theorem dX12_count_102 : decode cX12_count 102 = .ok (.iconst 0, 1) := by decide +kernel
theorem dX12_count_103 : decode cX12_count 103 = .ok (.istore 4, 2) := by decide +kernel
theorem dX12_count_105 : decode cX12_count 105 = .ok (.iload 4, 2) := by decide +kernel
theorem dX12_count_107 : decode cX12_count 107 = .ok (.bipush 32, 2) := by decide +kernel
theorem dX12_count_109 : decode cX12_count 109 = .ok (.if_icmp .ge 26, 3) := by decide +kernel
theorem dX12_count_112 : decode cX12_count 112 = .ok (.aload_n 0, 1) := by decide +kernel
theorem dX12_count_113 : decode cX12_count 113 = .ok (.iload 4, 2) := by decide +kernel
theorem dX12_count_115 : decode cX12_count 115 = .ok (.invokevirtual 545, 3) := by decide +kernel
theorem dX12_count_118 : decode cX12_count 118 = .ok (.ifCond .eq 9, 3) := by decide +kernel
theorem dX12_count_127 : decode cX12_count 127 = .ok (.iload_n 3, 1) := by decide +kernel
theorem dX12_count_128 : decode cX12_count 128 = .ok (.istore_n 3, 1) := by decide +kernel
theorem dX12_count_129 : decode cX12_count 129 = .ok (.iinc 4 1, 3) := by decide +kernel
theorem dX12_count_132 : decode cX12_count 132 = .ok (.goto (-27), 3) := by decide +kernel
theorem dX12_count_135 : decode cX12_count 135 = .ok (.iload_n 3, 1) := by decide +kernel
theorem dX12_count_136 : decode cX12_count 136 = .ok (.ireturn, 1) := by decide +kernel
theorem dX12_count_137 : decode cX12_count 137 = .ok (.aload_n 0, 1) := by decide +kernel
theorem dX12_count_138 : decode cX12_count 138 = .ok (.getfield 575, 3) := by decide +kernel
theorem dX12_count_141 : decode cX12_count 141 = .ok (.ireturn, 1) := by decide +kernel
theorem dX11_slotsWithShapes_0 : decode cX11_slotsWithShapes 0 = .ok (.iconst 0, 1) := by decide +kernel
theorem dX11_slotsWithShapes_1 : decode cX11_slotsWithShapes 1 = .ok (.istore_n 1, 1) := by decide +kernel
theorem dX11_slotsWithShapes_2 : decode cX11_slotsWithShapes 2 = .ok (.iconst 0, 1) := by decide +kernel
theorem dX11_slotsWithShapes_3 : decode cX11_slotsWithShapes 3 = .ok (.istore_n 2, 1) := by decide +kernel
theorem dX11_slotsWithShapes_4 : decode cX11_slotsWithShapes 4 = .ok (.iload_n 2, 1) := by decide +kernel
theorem dX11_slotsWithShapes_5 : decode cX11_slotsWithShapes 5 = .ok (.bipush 32, 2) := by decide +kernel
theorem dX11_slotsWithShapes_7 : decode cX11_slotsWithShapes 7 = .ok (.if_icmp .ge 24, 3) := by decide +kernel
theorem dX11_slotsWithShapes_10 : decode cX11_slotsWithShapes 10 = .ok (.aload_n 0, 1) := by decide +kernel
theorem dX11_slotsWithShapes_11 : decode cX11_slotsWithShapes 11 = .ok (.getfield 11, 3) := by decide +kernel
theorem dX11_slotsWithShapes_14 : decode cX11_slotsWithShapes 14 = .ok (.iload_n 2, 1) := by decide +kernel
theorem dX11_slotsWithShapes_15 : decode cX11_slotsWithShapes 15 = .ok (.aaload, 1) := by decide +kernel
theorem dX11_slotsWithShapes_16 : decode cX11_slotsWithShapes 16 = .ok (.invokevirtual 184, 3) := by decide +kernel
theorem dX11_slotsWithShapes_19 : decode cX11_slotsWithShapes 19 = .ok (.ifCond .eq 6, 3) := by decide +kernel
theorem dX11_slotsWithShapes_25 : decode cX11_slotsWithShapes 25 = .ok (.iinc 2 1, 3) := by decide +kernel
theorem dX11_slotsWithShapes_28 : decode cX11_slotsWithShapes 28 = .ok (.goto (-24), 3) := by decide +kernel
theorem dX11_slotsWithShapes_31 : decode cX11_slotsWithShapes 31 = .ok (.iload_n 1, 1) := by decide +kernel
theorem dX11_slotsWithShapes_32 : decode cX11_slotsWithShapes 32 = .ok (.ireturn, 1) := by decide +kernel
theorem dL_law_2085 : decode cL_law 2085 = .ok (.aload_n 1, 1) := by decide +kernel
theorem dL_law_2086 : decode cL_law 2086 = .ok (.aload_n 0, 1) := by decide +kernel
theorem dL_law_2087 : decode cL_law 2087 = .ok (.iload 4, 2) := by decide +kernel
theorem dL_law_2089 : decode cL_law 2089 = .ok (.iconst 1, 1) := by decide +kernel
theorem dL_law_2090 : decode cL_law 2090 = .ok (.iadd, 1) := by decide +kernel
theorem dL_law_2091 : decode cL_law 2091 = .ok (.iaload, 1) := by decide +kernel
theorem dL_law_2092 : decode cL_law 2092 = .ok (.aload_n 0, 1) := by decide +kernel
theorem dL_law_2093 : decode cL_law 2093 = .ok (.iload 4, 2) := by decide +kernel
theorem dL_law_2095 : decode cL_law 2095 = .ok (.iconst 2, 1) := by decide +kernel
theorem dL_law_2096 : decode cL_law 2096 = .ok (.iadd, 1) := by decide +kernel
theorem dL_law_2097 : decode cL_law 2097 = .ok (.iaload, 1) := by decide +kernel
theorem dL_law_2098 : decode cL_law 2098 = .ok (.aload_n 3, 1) := by decide +kernel
theorem dL_law_2099 : decode cL_law 2099 = .ok (.invokestatic 226, 3) := by decide +kernel
theorem dL_law_2102 : decode cL_law 2102 = .ok (.istore 5, 2) := by decide +kernel
theorem dL_law_2104 : decode cL_law 2104 = .ok (.aload_n 2, 1) := by decide +kernel
theorem dL_law_2105 : decode cL_law 2105 = .ok (.aload_n 0, 1) := by decide +kernel
theorem dL_law_2106 : decode cL_law 2106 = .ok (.iload 4, 2) := by decide +kernel
theorem dL_law_2108 : decode cL_law 2108 = .ok (.iconst 1, 1) := by decide +kernel
theorem dL_law_2109 : decode cL_law 2109 = .ok (.iadd, 1) := by decide +kernel
theorem dL_law_2110 : decode cL_law 2110 = .ok (.iaload, 1) := by decide +kernel
theorem dL_law_2111 : decode cL_law 2111 = .ok (.aload_n 0, 1) := by decide +kernel
theorem dL_law_2112 : decode cL_law 2112 = .ok (.iload 4, 2) := by decide +kernel
theorem dL_law_2114 : decode cL_law 2114 = .ok (.iconst 2, 1) := by decide +kernel
theorem dL_law_2115 : decode cL_law 2115 = .ok (.iadd, 1) := by decide +kernel
theorem dL_law_2116 : decode cL_law 2116 = .ok (.iaload, 1) := by decide +kernel
theorem dL_law_2117 : decode cL_law 2117 = .ok (.invokevirtual 228, 3) := by decide +kernel
theorem dL_law_2120 : decode cL_law 2120 = .ok (.istore 6, 2) := by decide +kernel
theorem dL_law_2122 : decode cL_law 2122 = .ok (.aload_n 2, 1) := by decide +kernel
theorem dL_law_2123 : decode cL_law 2123 = .ok (.invokevirtual 136, 3) := by decide +kernel
theorem dL_law_2126 : decode cL_law 2126 = .ok (.iload 5, 2) := by decide +kernel
theorem dL_law_2128 : decode cL_law 2128 = .ok (.if_icmp .eq 5, 3) := by decide +kernel
theorem dL_law_2133 : decode cL_law 2133 = .ok (.iload 5, 2) := by decide +kernel
theorem dL_law_2135 : decode cL_law 2135 = .ok (.ifCond .ne 15, 3) := by decide +kernel
theorem dL_law_2138 : decode cL_law 2138 = .ok (.aload_n 3, 1) := by decide +kernel
theorem dL_law_2139 : decode cL_law 2139 = .ok (.iconst 0, 1) := by decide +kernel
theorem dL_law_2140 : decode cL_law 2140 = .ok (.laload, 1) := by decide +kernel
theorem dL_law_2141 : decode cL_law 2141 = .ok (.iload 6, 2) := by decide +kernel
theorem dL_law_2143 : decode cL_law 2143 = .ok (.i2l, 1) := by decide +kernel
theorem dL_law_2144 : decode cL_law 2144 = .ok (.lcmp, 1) := by decide +kernel
theorem dL_law_2145 : decode cL_law 2145 = .ok (.ifCond .eq 5, 3) := by decide +kernel
theorem dL_law_2150 : decode cL_law 2150 = .ok (.goto 299, 3) := by decide +kernel
theorem dL_law_2153 : decode cL_law 2153 = .ok (.aload_n 1, 1) := by decide +kernel
theorem dL_law_2154 : decode cL_law 2154 = .ok (.aload_n 0, 1) := by decide +kernel
theorem dL_law_2155 : decode cL_law 2155 = .ok (.iload 4, 2) := by decide +kernel
theorem dL_law_2157 : decode cL_law 2157 = .ok (.iconst 1, 1) := by decide +kernel
theorem dL_law_2158 : decode cL_law 2158 = .ok (.iadd, 1) := by decide +kernel
theorem dL_law_2159 : decode cL_law 2159 = .ok (.iaload, 1) := by decide +kernel
theorem dL_law_2160 : decode cL_law 2160 = .ok (.aload_n 0, 1) := by decide +kernel
theorem dL_law_2161 : decode cL_law 2161 = .ok (.iload 4, 2) := by decide +kernel
theorem dL_law_2163 : decode cL_law 2163 = .ok (.iconst 2, 1) := by decide +kernel
theorem dL_law_2164 : decode cL_law 2164 = .ok (.iadd, 1) := by decide +kernel
theorem dL_law_2165 : decode cL_law 2165 = .ok (.iaload, 1) := by decide +kernel
theorem dL_law_2166 : decode cL_law 2166 = .ok (.i2l, 1) := by decide +kernel
theorem dL_law_2167 : decode cL_law 2167 = .ok (.bipush 32, 2) := by decide +kernel
theorem dL_law_2169 : decode cL_law 2169 = .ok (.lshl, 1) := by decide +kernel
theorem dL_law_2170 : decode cL_law 2170 = .ok (.aload_n 0, 1) := by decide +kernel
theorem dL_law_2171 : decode cL_law 2171 = .ok (.iload 4, 2) := by decide +kernel
theorem dL_law_2173 : decode cL_law 2173 = .ok (.iconst 3, 1) := by decide +kernel
theorem dL_law_2174 : decode cL_law 2174 = .ok (.iadd, 1) := by decide +kernel
theorem dL_law_2175 : decode cL_law 2175 = .ok (.iaload, 1) := by decide +kernel
theorem dL_law_2176 : decode cL_law 2176 = .ok (.i2l, 1) := by decide +kernel
theorem dL_law_2177 : decode cL_law 2177 = .ok (.ldc2_w 229, 3) := by decide +kernel
theorem dL_law_2180 : decode cL_law 2180 = .ok (.land, 1) := by decide +kernel
theorem dL_law_2181 : decode cL_law 2181 = .ok (.lor, 1) := by decide +kernel
theorem dL_law_2182 : decode cL_law 2182 = .ok (.aload_n 0, 1) := by decide +kernel
theorem dL_law_2183 : decode cL_law 2183 = .ok (.iload 4, 2) := by decide +kernel
theorem dL_law_2185 : decode cL_law 2185 = .ok (.iconst 4, 1) := by decide +kernel
theorem dL_law_2186 : decode cL_law 2186 = .ok (.iadd, 1) := by decide +kernel
theorem dL_law_2187 : decode cL_law 2187 = .ok (.iaload, 1) := by decide +kernel
theorem dL_law_2188 : decode cL_law 2188 = .ok (.i2l, 1) := by decide +kernel
theorem dL_law_2189 : decode cL_law 2189 = .ok (.bipush 32, 2) := by decide +kernel
theorem dL_law_2191 : decode cL_law 2191 = .ok (.lshl, 1) := by decide +kernel
theorem dL_law_2192 : decode cL_law 2192 = .ok (.aload_n 0, 1) := by decide +kernel
theorem dL_law_2193 : decode cL_law 2193 = .ok (.iload 4, 2) := by decide +kernel
theorem dL_law_2195 : decode cL_law 2195 = .ok (.iconst 5, 1) := by decide +kernel
theorem dL_law_2196 : decode cL_law 2196 = .ok (.iadd, 1) := by decide +kernel
theorem dL_law_2197 : decode cL_law 2197 = .ok (.iaload, 1) := by decide +kernel
theorem dL_law_2198 : decode cL_law 2198 = .ok (.i2l, 1) := by decide +kernel
theorem dL_law_2199 : decode cL_law 2199 = .ok (.ldc2_w 229, 3) := by decide +kernel
theorem dL_law_2202 : decode cL_law 2202 = .ok (.land, 1) := by decide +kernel
theorem dL_law_2203 : decode cL_law 2203 = .ok (.lor, 1) := by decide +kernel
theorem dL_law_2204 : decode cL_law 2204 = .ok (.invokestatic 231, 3) := by decide +kernel
theorem dL_law_2207 : decode cL_law 2207 = .ok (.istore 5, 2) := by decide +kernel
theorem dL_law_2209 : decode cL_law 2209 = .ok (.aload_n 2, 1) := by decide +kernel
theorem dL_law_2210 : decode cL_law 2210 = .ok (.aload_n 0, 1) := by decide +kernel
theorem dL_law_2211 : decode cL_law 2211 = .ok (.iload 4, 2) := by decide +kernel
theorem dL_law_2213 : decode cL_law 2213 = .ok (.iconst 1, 1) := by decide +kernel
theorem dL_law_2214 : decode cL_law 2214 = .ok (.iadd, 1) := by decide +kernel
theorem dL_law_2215 : decode cL_law 2215 = .ok (.iaload, 1) := by decide +kernel
theorem dL_law_2216 : decode cL_law 2216 = .ok (.aload_n 0, 1) := by decide +kernel
theorem dL_law_2217 : decode cL_law 2217 = .ok (.iload 4, 2) := by decide +kernel
theorem dL_law_2219 : decode cL_law 2219 = .ok (.iconst 2, 1) := by decide +kernel
theorem dL_law_2220 : decode cL_law 2220 = .ok (.iadd, 1) := by decide +kernel
theorem dL_law_2221 : decode cL_law 2221 = .ok (.iaload, 1) := by decide +kernel
theorem dL_law_2222 : decode cL_law 2222 = .ok (.i2l, 1) := by decide +kernel
theorem dL_law_2223 : decode cL_law 2223 = .ok (.bipush 32, 2) := by decide +kernel
theorem dL_law_2225 : decode cL_law 2225 = .ok (.lshl, 1) := by decide +kernel
theorem dL_law_2226 : decode cL_law 2226 = .ok (.aload_n 0, 1) := by decide +kernel
theorem dL_law_2227 : decode cL_law 2227 = .ok (.iload 4, 2) := by decide +kernel
theorem dL_law_2229 : decode cL_law 2229 = .ok (.iconst 3, 1) := by decide +kernel
theorem dL_law_2230 : decode cL_law 2230 = .ok (.iadd, 1) := by decide +kernel
theorem dL_law_2231 : decode cL_law 2231 = .ok (.iaload, 1) := by decide +kernel
theorem dL_law_2232 : decode cL_law 2232 = .ok (.i2l, 1) := by decide +kernel
theorem dL_law_2233 : decode cL_law 2233 = .ok (.ldc2_w 229, 3) := by decide +kernel
theorem dL_law_2236 : decode cL_law 2236 = .ok (.land, 1) := by decide +kernel
theorem dL_law_2237 : decode cL_law 2237 = .ok (.lor, 1) := by decide +kernel
theorem dL_law_2238 : decode cL_law 2238 = .ok (.aload_n 0, 1) := by decide +kernel
theorem dL_law_2239 : decode cL_law 2239 = .ok (.iload 4, 2) := by decide +kernel
theorem dL_law_2241 : decode cL_law 2241 = .ok (.iconst 4, 1) := by decide +kernel
theorem dL_law_2242 : decode cL_law 2242 = .ok (.iadd, 1) := by decide +kernel
theorem dL_law_2243 : decode cL_law 2243 = .ok (.iaload, 1) := by decide +kernel
theorem dL_law_2244 : decode cL_law 2244 = .ok (.i2l, 1) := by decide +kernel
theorem dL_law_2245 : decode cL_law 2245 = .ok (.bipush 32, 2) := by decide +kernel
theorem dL_law_2247 : decode cL_law 2247 = .ok (.lshl, 1) := by decide +kernel
theorem dL_law_2248 : decode cL_law 2248 = .ok (.aload_n 0, 1) := by decide +kernel
theorem dL_law_2249 : decode cL_law 2249 = .ok (.iload 4, 2) := by decide +kernel
theorem dL_law_2251 : decode cL_law 2251 = .ok (.iconst 5, 1) := by decide +kernel
theorem dL_law_2252 : decode cL_law 2252 = .ok (.iadd, 1) := by decide +kernel
theorem dL_law_2253 : decode cL_law 2253 = .ok (.iaload, 1) := by decide +kernel
theorem dL_law_2254 : decode cL_law 2254 = .ok (.i2l, 1) := by decide +kernel
theorem dL_law_2255 : decode cL_law 2255 = .ok (.ldc2_w 229, 3) := by decide +kernel
theorem dL_law_2258 : decode cL_law 2258 = .ok (.land, 1) := by decide +kernel
theorem dL_law_2259 : decode cL_law 2259 = .ok (.lor, 1) := by decide +kernel
theorem dL_law_2260 : decode cL_law 2260 = .ok (.invokevirtual 234, 3) := by decide +kernel
theorem dL_law_2263 : decode cL_law 2263 = .ok (.aload_n 2, 1) := by decide +kernel
theorem dL_law_2264 : decode cL_law 2264 = .ok (.invokevirtual 136, 3) := by decide +kernel
theorem dL_law_2267 : decode cL_law 2267 = .ok (.iload 5, 2) := by decide +kernel
theorem dL_law_2269 : decode cL_law 2269 = .ok (.if_icmp .eq 5, 3) := by decide +kernel
theorem dL_law_2274 : decode cL_law 2274 = .ok (.goto 175, 3) := by decide +kernel
abbrev M_L_point : MRec := (yL_point, cL_point, 7, (some Jvm.ClassFile.FieldType.int), [((0 : Nat), (8 : Nat), (11 : Nat), (24 : Nat)), ((0 : Nat), (8 : Nat), (15 : Nat), (19 : Nat))])
theorem m_L_point : en_M M_L_point 4 := ⟨t_2304, t_0, ⟨by decide +kernel, by decide +kernel⟩, by decide +kernel, by decide +kernel, by decide +kernel⟩
abbrev M_X11_point : MRec := (yX11_point, cX11_point, 6, none, [])
theorem m_X11_point : en_M M_X11_point 3 := ⟨t_2308, t_1, ⟨by decide +kernel, by decide +kernel⟩, by decide +kernel, by decide +kernel, by decide +kernel⟩
abbrev M_X11_isNoSignPoint : MRec := (yX11_isNoSignPoint, cX11_isNoSignPoint, 1, (some Jvm.ClassFile.FieldType.boolean), [])
theorem m_X11_isNoSignPoint : en_M M_X11_isNoSignPoint 1 := ⟨t_2311, t_1, ⟨by decide +kernel, by decide +kernel⟩, by decide +kernel, by decide +kernel, by decide +kernel⟩
abbrev M_X12_point : MRec := (yX12_point, cX12_point, 7, none, [])
theorem m_X12_point : en_M M_X12_point 3 := ⟨t_3153, t_14, ⟨by decide +kernel, by decide +kernel⟩, by decide +kernel, by decide +kernel, by decide +kernel⟩
abbrev M_X12_isPoint : MRec := (yX12_isPoint, cX12_isPoint, 1, (some Jvm.ClassFile.FieldType.boolean), [])
theorem m_X12_isPoint : en_M M_X12_isPoint 1 := ⟨t_3156, t_14, ⟨by decide +kernel, by decide +kernel⟩, by decide +kernel, by decide +kernel, by decide +kernel⟩
abbrev M_X11_isNoNumber : MRec := (yX11_isNoNumber, cX11_isNoNumber, 2, (some Jvm.ClassFile.FieldType.boolean), [])
theorem m_X11_isNoNumber : en_M M_X11_isNoNumber 1 := ⟨t_2314, t_1, ⟨by decide +kernel, by decide +kernel⟩, by decide +kernel, by decide +kernel, by decide +kernel⟩
abbrev M_L_count : MRec := (yL_count, cL_count, 5, (some Jvm.ClassFile.FieldType.int), [((0 : Nat), (10 : Nat), (13 : Nat), (24 : Nat))])
theorem m_L_count : en_M M_L_count 4 := ⟨t_2293, t_0, ⟨by decide +kernel, by decide +kernel⟩, by decide +kernel, by decide +kernel, by decide +kernel⟩
abbrev M_X11_count : MRec := (yX11_count, cX11_count, 4, (some Jvm.ClassFile.FieldType.int), [])
theorem m_X11_count : en_M M_X11_count 2 := ⟨t_2297, t_1, ⟨by decide +kernel, by decide +kernel⟩, by decide +kernel, by decide +kernel, by decide +kernel⟩
abbrev M_X12_count : MRec := (yX12_count, cX12_count, 5, (some Jvm.ClassFile.FieldType.int), [])
theorem m_X12_count : en_M M_X12_count 2 := ⟨t_3117, t_14, ⟨by decide +kernel, by decide +kernel⟩, by decide +kernel, by decide +kernel, by decide +kernel⟩
abbrev M_X11_slotsWithShapes : MRec := (yX11_slotsWithShapes, cX11_slotsWithShapes, 3, (some Jvm.ClassFile.FieldType.int), [])
theorem m_X11_slotsWithShapes : en_M M_X11_slotsWithShapes 0 := ⟨t_2301, t_1, ⟨by decide +kernel, by decide +kernel⟩, by decide +kernel, by decide +kernel, by decide +kernel⟩
set_option maxRecDepth 10000 in
theorem q4252 {l : Launch} {E : EE} (hl : l.stackTraces = false) {h : HP} {a0 : Int32} (c0 : a0.toInt < 0) : en_C l E M_X11_isNoSignPoint 0 0 0 [.int a0] h (pR (some (.int (Int32.ofInt 1))) h) := by
  refine en_mk m_X11_isNoSignPoint rfl hl (Nat.le_of_ble_eq_true rfl) ?_
  refine x_iload_n (M := M_X11_isNoSignPoint) dX11_isNoSignPoint_0 rfl ?_
  refine x_if_lt (M := M_X11_isNoSignPoint) (tgt := 10) dX11_isNoSignPoint_1 (by decide) (fun _ => ?_) (fun q => absurd ((bi_lt rfl (by decide +kernel)).mpr (by omega : (a0.toInt < 0 : Prop))) q)
  refine x_iconst (M := M_X11_isNoSignPoint) dX11_isNoSignPoint_10 ?_
  refine x_goto (M := M_X11_isNoSignPoint) (tgt := 15) dX11_isNoSignPoint_11 (by decide) ?_
  exact x_zret (M := M_X11_isNoSignPoint) dX11_isNoSignPoint_15 rfl (by decide) ⟨rfl, rfl⟩ (Nat.le_of_ble_eq_true rfl) (Nat.le_of_ble_eq_true rfl)
set_option maxRecDepth 10000 in
theorem q4254 {l : Launch} {E : EE} (hl : l.stackTraces = false) {h : HP} {a0 : Int32} {a1 : Int32} {a2 : Int32} {a3 : Int32} {a4 : Int32} (c0 : a0.toInt < 0) : en_C l E M_X11_point 6 1 6 [.ref 32, .int a0, .long (((a1.toInt64) <<< (((Int8.ofInt 32).toInt32).toInt64 &&& 63)) ||| ((a2.toInt64) &&& (4294967295 : Int64))), .long (((a3.toInt64) <<< (((Int8.ofInt 32).toInt32).toInt64 &&& 63)) ||| ((a4.toInt64) &&& (4294967295 : Int64)))] h (pT "java/lang/IndexOutOfBoundsException" [] h (fun _ => True)) := by
  refine en_mk m_X11_point rfl hl (Nat.le_of_ble_eq_true rfl) ?_
  refine x_iload_n (M := M_X11_point) dX11_point_0 rfl ?_
  refine x_callSR (M := M_X11_point) (M' := M_X11_isNoSignPoint) rfl rfl dX11_point_1 m_X11_isNoSignPoint t_2309 t_2310 (q4252 hl c0) rfl rfl (Nat.le_of_ble_eq_true rfl) (Nat.le_of_ble_eq_true rfl) (Nat.le_of_ble_eq_true rfl) (Nat.le_of_ble_eq_true rfl) ?_
  refine x_if_eq (M := M_X11_point) (tgt := 15) dX11_point_4 (by decide) (fun q => absurd q (by decide +kernel)) (fun _ => ?_)
  exact x_throw (M := M_X11_point) (names := en_nm) rfl dX11_point_7 dX11_point_10 dX11_point_11 dX11_point_14 (by decide +kernel) en_nm_ok (Or.inl t_748) (Or.inl t_22) (at_X11_IndexOutOfBoundsException_139) (Nat.le_of_ble_eq_true rfl) (Nat.le_of_ble_eq_true rfl) (Nat.le_of_ble_eq_true rfl) (Nat.le_of_ble_eq_true rfl) (fun n9 => ⟨rfl, (fr_tr (fr_app (List.replicate n9 none)) (fun _ h => nomatch h) fr_rf), trivial⟩)
set_option maxRecDepth 10000 in
theorem q4259 {l : Launch} {E : EE} (hl : l.stackTraces = false) {h : HP} {a0 : Int32} {a1 : Int32} {a2 : Int32} {a3 : Int32} {a4 : Int32} (c0 : a0.toInt < 0) (o4255 : ob h 32 = some (.inr (14, [.ref 33, .ref 162, .ref 166, .int (0 : Int32), .int (0 : Int32), .int (0 : Int32), .ref 167, .ref 170, .ref 173, .ref 177, .ref 193, .ref 208, .ref 222, .ref 238, .ref 252, .ref 274, .ref 275, .ref 276, .int (0 : Int32)]))) : en_C l E M_L_point 7 1 6 [.ref 32, .int a0, .long (((a1.toInt64) <<< (((Int8.ofInt 32).toInt32).toInt64 &&& 63)) ||| ((a2.toInt64) &&& (4294967295 : Int64))), .long (((a3.toInt64) <<< (((Int8.ofInt 32).toInt32).toInt64 &&& 63)) ||| ((a4.toInt64) &&& (4294967295 : Int64)))] h (pF (some (.int (Int32.ofInt 1))) [] h (fun _ => True)) := by
  refine en_mkW m_L_point rfl hl (Nat.le_of_ble_eq_true rfl) ?_
  refine x_aload_n (M := M_L_point) dL_point_0 rfl ?_
  refine x_iload_n (M := M_L_point) dL_point_1 rfl ?_
  refine x_lload_n (M := M_L_point) dL_point_2 rfl ?_
  refine x_lload (M := M_L_point) dL_point_3 rfl ?_
  refine y_callVHX (M := M_L_point) (M' := M_X11_point) (i9 := 6) (nx := 13) rfl dL_point_5 m_X11_point t_2305 t_2306 t_2307 o4255 rfl (q4254 hl c0) rfl rfl (Nat.le_of_ble_eq_true rfl) (Nat.le_of_ble_eq_true rfl) (Nat.le_of_ble_eq_true rfl) (Nat.le_of_ble_eq_true rfl) (en_hdm (k0 := 6) [] [(0, 8, 15, 19)] rfl (fun _ h => nomatch h) (by decide +kernel) (by decide) t_739 n_750 dL_point_11) (by decide) rfl (fun h4256 f4257 w4258 => ?_)
  refine x_iconst (M := M_L_point) dL_point_13 ?_
  exact x_iret (M := M_L_point) dL_point_14 rfl ⟨rfl, (fr_tr f4257 (fun _ h => nomatch h) fr_rf), trivial⟩ (Nat.le_of_ble_eq_true rfl) (Nat.le_of_ble_eq_true rfl)
set_option maxRecDepth 10000 in
theorem q4276 {l : Launch} {E : EE} (hl : l.stackTraces = false) {h : HP} {a0 : Int32} (c0 : a0.toInt < 0) : en_C l E M_X12_isPoint 0 0 0 [.int a0] h (pR (some (.int (Int32.ofInt 0))) h) := by
  refine en_mk m_X12_isPoint rfl hl (Nat.le_of_ble_eq_true rfl) ?_
  refine x_iload_n (M := M_X12_isPoint) dX12_isPoint_0 rfl ?_
  refine x_if_lt (M := M_X12_isPoint) (tgt := 14) dX12_isPoint_1 (by decide) (fun _ => ?_) (fun q => absurd ((bi_lt rfl (by decide +kernel)).mpr (by omega : (a0.toInt < 0 : Prop))) q)
  refine x_iconst (M := M_X12_isPoint) dX12_isPoint_14 ?_
  exact x_zret (M := M_X12_isPoint) dX12_isPoint_15 rfl (by decide) ⟨rfl, rfl⟩ (Nat.le_of_ble_eq_true rfl) (Nat.le_of_ble_eq_true rfl)
set_option maxRecDepth 10000 in
theorem q4281 {l : Launch} {E : EE} (hl : l.stackTraces = false) {h : HP} {a0 : Int32} {a1 : Int32} {a2 : Int32} {a3 : Int32} {a4 : Int32} {dg : Int32} (c0 : a0.toInt < 0) (c1 : (lg_cmp ((((((a1.toInt64) <<< (((Int8.ofInt 32).toInt32).toInt64 &&& 63)) ||| ((a2.toInt64) &&& (4294967295 : Int64))).toUInt64 >>> (((Int8.ofInt 52).toInt32).toInt64.toUInt64 &&& Int64.toUInt64 63)).toInt64) &&& (2047 : Int64)) (2047 : Int64)) = 0) (o4272 : ob h 277 = some (.inr (15, (RB dg)))) : en_C l E M_X12_point 1 0 0 [.ref 277, .int a0, .long (((a1.toInt64) <<< (((Int8.ofInt 32).toInt32).toInt64 &&& 63)) ||| ((a2.toInt64) &&& (4294967295 : Int64))), .long (((a3.toInt64) <<< (((Int8.ofInt 32).toInt32).toInt64 &&& 63)) ||| ((a4.toInt64) &&& (4294967295 : Int64)))] h (pF none [277] h (fun h' => ob h' 277 = some (.inr (15, ((RB dg).set 0 (.int (Int32.ofInt 1))))) ∧ True)) := by
  refine en_mk m_X12_point rfl hl (Nat.le_of_ble_eq_true rfl) ?_
  refine x_aload_n (M := M_X12_point) dX12_point_0 rfl ?_
  refine x_iconst (M := M_X12_point) dX12_point_1 ?_
  refine y_put (M := M_X12_point) (ci := 15) (C := RX12) (T := TX12) (N := 135) (ty := tyX12) cl15 dX12_point_2 o4272 0 (by decide) t_2391 (Or.inl rfl) (Nat.le_of_ble_eq_true rfl) rfl (fun h4273 w4274 f4275 => ?_)
  refine x_lload_n (M := M_X12_point) dX12_point_5 rfl ?_
  refine x_bipush (M := M_X12_point) dX12_point_6 ?_
  refine x_lushr (M := M_X12_point) dX12_point_8 ?_
  refine x_ldc2 (M := M_X12_point) dX12_point_9 t_2994 ?_
  refine x_land (M := M_X12_point) dX12_point_12 ?_
  refine x_ldc2 (M := M_X12_point) dX12_point_13 t_2994 ?_
  refine x_lcmp (M := M_X12_point) dX12_point_16 ?_
  refine x_if_eq (M := M_X12_point) (tgt := 36) dX12_point_17 (by decide) (fun _ => ?_) (fun q => absurd c1 q)
  refine x_iconst (M := M_X12_point) dX12_point_36 ?_
  refine x_goto (M := M_X12_point) (tgt := 41) dX12_point_37 (by decide) ?_
  refine x_istore (M := M_X12_point) dX12_point_41 (Nat.le_of_ble_eq_true rfl) rfl ?_
  refine x_aload_n (M := M_X12_point) dX12_point_43 rfl ?_
  refine x_iload_n (M := M_X12_point) dX12_point_44 rfl ?_
  refine x_callSR (M := M_X12_point) (M' := M_X12_isPoint) rfl rfl dX12_point_45 m_X12_isPoint t_3154 t_3155 (q4276 hl c0) rfl rfl (Nat.le_of_ble_eq_true rfl) (Nat.le_of_ble_eq_true rfl) (Nat.le_of_ble_eq_true rfl) (Nat.le_of_ble_eq_true rfl) ?_
  refine x_if_ne (M := M_X12_point) (tgt := 55) dX12_point_48 (by decide) (fun q => absurd q (by decide +kernel)) (fun _ => ?_)
  refine x_iconst (M := M_X12_point) dX12_point_51 ?_
  refine x_goto (M := M_X12_point) (tgt := 56) dX12_point_52 (by decide) ?_
  refine x_iconst (M := M_X12_point) dX12_point_56 ?_
  refine y_callVR (M := M_X12_point) (M' := M_X12_fails) rfl rfl dX12_point_57 m_X12_fails t_2805 t_2807 s_157 (q22 hl w4274) rfl rfl w4274 rfl (Nat.le_of_ble_eq_true rfl) (Nat.le_of_ble_eq_true rfl) (Nat.le_of_ble_eq_true rfl) (Nat.le_of_ble_eq_true rfl) (fun h4277 f4278 w4279 => ?_)
  obtain ⟨o4280, -⟩ := w4279
  refine x_if_ne (M := M_X12_point) (tgt := 73) dX12_point_60 (by decide) (fun _ => ?_) (fun q => absurd q (by decide +kernel))
  exact x_vret (M := M_X12_point) dX12_point_73 rfl ⟨rfl, (fr_tr f4278 (by decide) (fr_tr f4275 (by decide) fr_rf)), ⟨o4280, trivial⟩⟩ (Nat.le_of_ble_eq_true rfl) (Nat.le_of_ble_eq_true rfl)
set_option maxRecDepth 10000 in
theorem lc29_0 {l : Launch} {E : EE} (hl : l.stackTraces = false) (nm : String) {xs : Nat → Int32} (hx : E.2.2.2.2 0 = some (7, xs)) {h : HP} {a0 : Int32} {a1 : Int32} {a2 : Int32} {a3 : Int32} {a4 : Int32} {dg : Int32} (e2 : xs 2 = a0) (e3 : xs 3 = a1) (e4 : xs 4 = a2) (e5 : xs 5 = a3) (e6 : xs 6 = a4) (c0 : a0.toInt < 0) (c1 : (lg_cmp ((((((a1.toInt64) <<< (((Int8.ofInt 32).toInt32).toInt64 &&& 63)) ||| ((a2.toInt64) &&& (4294967295 : Int64))).toUInt64 >>> (((Int8.ofInt 52).toInt32).toInt64.toUInt64 &&& Int64.toUInt64 63)).toInt64) &&& (2047 : Int64)) (2047 : Int64)) = 0) (o4268 : ob h 32 = some (.inr (14, [.ref 33, .ref 162, .ref 166, .int (0 : Int32), .int (0 : Int32), .int (0 : Int32), .ref 167, .ref 170, .ref 173, .ref 177, .ref 193, .ref 208, .ref 222, .ref 238, .ref 252, .ref 274, .ref 275, .ref 276, .int (0 : Int32)]))) (o4282 : ob h 277 = some (.inr (15, (RB dg)))) : XX l E (M_law nm) 1312 342628 8074320 (fun o _ => o = .inl (some (.int 1))) 2153 [some (.ref 0), some (.ref 32), some (.ref 277), some (.ref 359), some (.int (Int32.ofInt 1)), none, none, none] [] h 328 2463747 := by
  refine x_aload_n (M := (M_law nm)) dL_law_2153 rfl ?_
  refine x_aload_n (M := (M_law nm)) dL_law_2154 rfl ?_
  refine x_iload (M := (M_law nm)) dL_law_2155 rfl ?_
  refine x_iconst (M := (M_law nm)) dL_law_2157 ?_
  refine x_iadd (M := (M_law nm)) dL_law_2158 ?_
  refine x_sald (M := (M_law nm)) dL_law_2159 (by decide) hx (vp_inD (by decide +kernel)) ?_
  refine x_top (M := (M_law nm)) (y := a0) ((congrArg xs (by decide +kernel : ((Int32.ofInt 1) + (Int32.ofInt 1)).toNatClampNeg = 2)).trans e2) ?_
  refine x_aload_n (M := (M_law nm)) dL_law_2160 rfl ?_
  refine x_iload (M := (M_law nm)) dL_law_2161 rfl ?_
  refine x_iconst (M := (M_law nm)) dL_law_2163 ?_
  refine x_iadd (M := (M_law nm)) dL_law_2164 ?_
  refine x_sald (M := (M_law nm)) dL_law_2165 (by decide) hx (vp_inD (by decide +kernel)) ?_
  refine x_top (M := (M_law nm)) (y := a1) ((congrArg xs (by decide +kernel : ((Int32.ofInt 1) + (Int32.ofInt 2)).toNatClampNeg = 3)).trans e3) ?_
  refine x_i2l (M := (M_law nm)) dL_law_2166 ?_
  refine x_bipush (M := (M_law nm)) dL_law_2167 ?_
  refine x_lshl (M := (M_law nm)) dL_law_2169 ?_
  refine x_aload_n (M := (M_law nm)) dL_law_2170 rfl ?_
  refine x_iload (M := (M_law nm)) dL_law_2171 rfl ?_
  refine x_iconst (M := (M_law nm)) dL_law_2173 ?_
  refine x_iadd (M := (M_law nm)) dL_law_2174 ?_
  refine x_sald (M := (M_law nm)) dL_law_2175 (by decide) hx (vp_inD (by decide +kernel)) ?_
  refine x_top (M := (M_law nm)) (y := a2) ((congrArg xs (by decide +kernel : ((Int32.ofInt 1) + (Int32.ofInt 3)).toNatClampNeg = 4)).trans e4) ?_
  refine x_i2l (M := (M_law nm)) dL_law_2176 ?_
  refine x_ldc2 (M := (M_law nm)) dL_law_2177 t_3705 ?_
  refine x_land (M := (M_law nm)) dL_law_2180 ?_
  refine x_lor (M := (M_law nm)) dL_law_2181 ?_
  refine x_aload_n (M := (M_law nm)) dL_law_2182 rfl ?_
  refine x_iload (M := (M_law nm)) dL_law_2183 rfl ?_
  refine x_iconst (M := (M_law nm)) dL_law_2185 ?_
  refine x_iadd (M := (M_law nm)) dL_law_2186 ?_
  refine x_sald (M := (M_law nm)) dL_law_2187 (by decide) hx (vp_inD (by decide +kernel)) ?_
  refine x_top (M := (M_law nm)) (y := a3) ((congrArg xs (by decide +kernel : ((Int32.ofInt 1) + (Int32.ofInt 4)).toNatClampNeg = 5)).trans e5) ?_
  refine x_i2l (M := (M_law nm)) dL_law_2188 ?_
  refine x_bipush (M := (M_law nm)) dL_law_2189 ?_
  refine x_lshl (M := (M_law nm)) dL_law_2191 ?_
  refine x_aload_n (M := (M_law nm)) dL_law_2192 rfl ?_
  refine x_iload (M := (M_law nm)) dL_law_2193 rfl ?_
  refine x_iconst (M := (M_law nm)) dL_law_2195 ?_
  refine x_iadd (M := (M_law nm)) dL_law_2196 ?_
  refine x_sald (M := (M_law nm)) dL_law_2197 (by decide) hx (vp_inD (by decide +kernel)) ?_
  refine x_top (M := (M_law nm)) (y := a4) ((congrArg xs (by decide +kernel : ((Int32.ofInt 1) + (Int32.ofInt 5)).toNatClampNeg = 6)).trans e6) ?_
  refine x_i2l (M := (M_law nm)) dL_law_2198 ?_
  refine x_ldc2 (M := (M_law nm)) dL_law_2199 t_3705 ?_
  refine x_land (M := (M_law nm)) dL_law_2202 ?_
  refine x_lor (M := (M_law nm)) dL_law_2203 ?_
  refine y_callSW (M := (M_law nm)) (M' := M_L_point) rfl rfl dL_law_2204 m_L_point t_2302 t_2303 (q4259 hl c0 o4268) rfl rfl (Nat.le_of_ble_eq_true rfl) (Nat.le_of_ble_eq_true rfl) (Nat.le_of_ble_eq_true rfl) (Nat.le_of_ble_eq_true rfl) (fun h4269 f4270 w4271 => ?_)
  refine x_istore (M := (M_law nm)) dL_law_2207 (Nat.le_of_ble_eq_true rfl) rfl ?_
  refine x_aload_n (M := (M_law nm)) dL_law_2209 rfl ?_
  refine x_aload_n (M := (M_law nm)) dL_law_2210 rfl ?_
  refine x_iload (M := (M_law nm)) dL_law_2211 rfl ?_
  refine x_iconst (M := (M_law nm)) dL_law_2213 ?_
  refine x_iadd (M := (M_law nm)) dL_law_2214 ?_
  refine x_sald (M := (M_law nm)) dL_law_2215 (by decide) hx (vp_inD (by decide +kernel)) ?_
  refine x_top (M := (M_law nm)) (y := a0) ((congrArg xs (by decide +kernel : ((Int32.ofInt 1) + (Int32.ofInt 1)).toNatClampNeg = 2)).trans e2) ?_
  refine x_aload_n (M := (M_law nm)) dL_law_2216 rfl ?_
  refine x_iload (M := (M_law nm)) dL_law_2217 rfl ?_
  refine x_iconst (M := (M_law nm)) dL_law_2219 ?_
  refine x_iadd (M := (M_law nm)) dL_law_2220 ?_
  refine x_sald (M := (M_law nm)) dL_law_2221 (by decide) hx (vp_inD (by decide +kernel)) ?_
  refine x_top (M := (M_law nm)) (y := a1) ((congrArg xs (by decide +kernel : ((Int32.ofInt 1) + (Int32.ofInt 2)).toNatClampNeg = 3)).trans e3) ?_
  refine x_i2l (M := (M_law nm)) dL_law_2222 ?_
  refine x_bipush (M := (M_law nm)) dL_law_2223 ?_
  refine x_lshl (M := (M_law nm)) dL_law_2225 ?_
  refine x_aload_n (M := (M_law nm)) dL_law_2226 rfl ?_
  refine x_iload (M := (M_law nm)) dL_law_2227 rfl ?_
  refine x_iconst (M := (M_law nm)) dL_law_2229 ?_
  refine x_iadd (M := (M_law nm)) dL_law_2230 ?_
  refine x_sald (M := (M_law nm)) dL_law_2231 (by decide) hx (vp_inD (by decide +kernel)) ?_
  refine x_top (M := (M_law nm)) (y := a2) ((congrArg xs (by decide +kernel : ((Int32.ofInt 1) + (Int32.ofInt 3)).toNatClampNeg = 4)).trans e4) ?_
  refine x_i2l (M := (M_law nm)) dL_law_2232 ?_
  refine x_ldc2 (M := (M_law nm)) dL_law_2233 t_3705 ?_
  refine x_land (M := (M_law nm)) dL_law_2236 ?_
  refine x_lor (M := (M_law nm)) dL_law_2237 ?_
  refine x_aload_n (M := (M_law nm)) dL_law_2238 rfl ?_
  refine x_iload (M := (M_law nm)) dL_law_2239 rfl ?_
  refine x_iconst (M := (M_law nm)) dL_law_2241 ?_
  refine x_iadd (M := (M_law nm)) dL_law_2242 ?_
  refine x_sald (M := (M_law nm)) dL_law_2243 (by decide) hx (vp_inD (by decide +kernel)) ?_
  refine x_top (M := (M_law nm)) (y := a3) ((congrArg xs (by decide +kernel : ((Int32.ofInt 1) + (Int32.ofInt 4)).toNatClampNeg = 5)).trans e5) ?_
  refine x_i2l (M := (M_law nm)) dL_law_2244 ?_
  refine x_bipush (M := (M_law nm)) dL_law_2245 ?_
  refine x_lshl (M := (M_law nm)) dL_law_2247 ?_
  refine x_aload_n (M := (M_law nm)) dL_law_2248 rfl ?_
  refine x_iload (M := (M_law nm)) dL_law_2249 rfl ?_
  refine x_iconst (M := (M_law nm)) dL_law_2251 ?_
  refine x_iadd (M := (M_law nm)) dL_law_2252 ?_
  refine x_sald (M := (M_law nm)) dL_law_2253 (by decide) hx (vp_inD (by decide +kernel)) ?_
  refine x_top (M := (M_law nm)) (y := a4) ((congrArg xs (by decide +kernel : ((Int32.ofInt 1) + (Int32.ofInt 5)).toNatClampNeg = 6)).trans e6) ?_
  refine x_i2l (M := (M_law nm)) dL_law_2254 ?_
  refine x_ldc2 (M := (M_law nm)) dL_law_2255 t_3705 ?_
  refine x_land (M := (M_law nm)) dL_law_2258 ?_
  refine x_lor (M := (M_law nm)) dL_law_2259 ?_
  have o4283 := (f4270 277 _ (by decide) o4282)
  refine y_callVR (M := (M_law nm)) (M' := M_X12_point) rfl rfl dL_law_2260 m_X12_point t_3150 t_3151 t_3152 (q4281 hl c0 c1 o4283) rfl rfl o4283 rfl (Nat.le_of_ble_eq_true rfl) (Nat.le_of_ble_eq_true rfl) (Nat.le_of_ble_eq_true rfl) (Nat.le_of_ble_eq_true rfl) (fun h4284 f4285 w4286 => ?_)
  obtain ⟨o4287, -⟩ := w4286
  refine x_aload_n (M := (M_law nm)) dL_law_2263 rfl ?_
  refine x_callVR (M := (M_law nm)) (M' := M_X12_thrown) rfl rfl dL_law_2264 m_X12_thrown t_2797 t_2798 t_2799 (q35 hl o4287) rfl rfl o4287 rfl (Nat.le_of_ble_eq_true rfl) (Nat.le_of_ble_eq_true rfl) (Nat.le_of_ble_eq_true rfl) (Nat.le_of_ble_eq_true rfl) ?_
  refine x_iload (M := (M_law nm)) dL_law_2267 rfl ?_
  refine x_icmp_eq (M := (M_law nm)) (tgt := 2274) dL_law_2269 (by decide) (fun _ => ?_) (fun q => absurd q (by decide +kernel))
  refine x_goto (M := (M_law nm)) (tgt := 2449) dL_law_2274 (by decide) ?_
  refine x_iinc (M := (M_law nm)) dL_law_2449 rfl (Nat.le_of_ble_eq_true rfl) rfl ?_
  refine x_lvs (M := (M_law nm)) (lv' := [some (.ref 0), some (.ref 32), some (.ref 277), some (.ref 359), some (.int (Int32.ofInt 7)), some (.int (Int32.ofInt 1)), none, none]) (by rw [(by decide +kernel : (Int32.ofInt 1) + Int32.ofInt 6 = (Int32.ofInt 7))] <;> rfl) ?_
  refine x_goto (M := (M_law nm)) (tgt := 33) dL_law_2452 (by decide) ?_
  refine x_iload (M := (M_law nm)) dL_law_33 rfl ?_
  refine x_aload_n (M := (M_law nm)) dL_law_35 rfl ?_
  refine x_slen (M := (M_law nm)) dL_law_36 (by decide) hx ?_
  refine x_bipush (M := (M_law nm)) dL_law_37 ?_
  refine x_isub (M := (M_law nm)) dL_law_39 ?_
  refine x_icmp_gt (M := (M_law nm)) (tgt := 2455) dL_law_40 (by decide) (fun _ => ?_) (fun q => absurd q (by decide +kernel))
  refine x_iconst (M := (M_law nm)) dL_law_2455 ?_
  exact x_zret (M := (M_law nm)) dL_law_2456 rfl (by decide) rfl (Nat.le_of_ble_eq_true rfl) (Nat.le_of_ble_eq_true rfl)
set_option maxRecDepth 10000 in
theorem q4308 {l : Launch} {E : EE} (hl : l.stackTraces = false) {h : HP} {a0 : Int32} {a1 : Int32} {a2 : Int32} {a3 : Int32} {a4 : Int32} {dg : Int32} (c0 : a0.toInt < 0) (c1 : ¬ ((lg_cmp ((((((a1.toInt64) <<< (((Int8.ofInt 32).toInt32).toInt64 &&& 63)) ||| ((a2.toInt64) &&& (4294967295 : Int64))).toUInt64 >>> (((Int8.ofInt 52).toInt32).toInt64.toUInt64 &&& Int64.toUInt64 63)).toInt64) &&& (2047 : Int64)) (2047 : Int64)) = 0)) (c2 : (lg_cmp ((((((a3.toInt64) <<< (((Int8.ofInt 32).toInt32).toInt64 &&& 63)) ||| ((a4.toInt64) &&& (4294967295 : Int64))).toUInt64 >>> (((Int8.ofInt 52).toInt32).toInt64.toUInt64 &&& Int64.toUInt64 63)).toInt64) &&& (2047 : Int64)) (2047 : Int64)) = 0) (o4300 : ob h 277 = some (.inr (15, (RB dg)))) : en_C l E M_X12_point 1 0 0 [.ref 277, .int a0, .long (((a1.toInt64) <<< (((Int8.ofInt 32).toInt32).toInt64 &&& 63)) ||| ((a2.toInt64) &&& (4294967295 : Int64))), .long (((a3.toInt64) <<< (((Int8.ofInt 32).toInt32).toInt64 &&& 63)) ||| ((a4.toInt64) &&& (4294967295 : Int64)))] h (pF none [277] h (fun h' => ob h' 277 = some (.inr (15, ((RB dg).set 0 (.int (Int32.ofInt 1))))) ∧ True)) := by
  refine en_mk m_X12_point rfl hl (Nat.le_of_ble_eq_true rfl) ?_
  refine x_aload_n (M := M_X12_point) dX12_point_0 rfl ?_
  refine x_iconst (M := M_X12_point) dX12_point_1 ?_
  refine y_put (M := M_X12_point) (ci := 15) (C := RX12) (T := TX12) (N := 135) (ty := tyX12) cl15 dX12_point_2 o4300 0 (by decide) t_2391 (Or.inl rfl) (Nat.le_of_ble_eq_true rfl) rfl (fun h4301 w4302 f4303 => ?_)
  refine x_lload_n (M := M_X12_point) dX12_point_5 rfl ?_
  refine x_bipush (M := M_X12_point) dX12_point_6 ?_
  refine x_lushr (M := M_X12_point) dX12_point_8 ?_
  refine x_ldc2 (M := M_X12_point) dX12_point_9 t_2994 ?_
  refine x_land (M := M_X12_point) dX12_point_12 ?_
  refine x_ldc2 (M := M_X12_point) dX12_point_13 t_2994 ?_
  refine x_lcmp (M := M_X12_point) dX12_point_16 ?_
  refine x_if_eq (M := M_X12_point) (tgt := 36) dX12_point_17 (by decide) (fun q => absurd q c1) (fun _ => ?_)
  refine x_lload (M := M_X12_point) dX12_point_20 rfl ?_
  refine x_bipush (M := M_X12_point) dX12_point_22 ?_
  refine x_lushr (M := M_X12_point) dX12_point_24 ?_
  refine x_ldc2 (M := M_X12_point) dX12_point_25 t_2994 ?_
  refine x_land (M := M_X12_point) dX12_point_28 ?_
  refine x_ldc2 (M := M_X12_point) dX12_point_29 t_2994 ?_
  refine x_lcmp (M := M_X12_point) dX12_point_32 ?_
  refine x_if_ne (M := M_X12_point) (tgt := 40) dX12_point_33 (by decide) (fun q => absurd c2 q) (fun _ => ?_)
  refine x_iconst (M := M_X12_point) dX12_point_36 ?_
  refine x_goto (M := M_X12_point) (tgt := 41) dX12_point_37 (by decide) ?_
  refine x_istore (M := M_X12_point) dX12_point_41 (Nat.le_of_ble_eq_true rfl) rfl ?_
  refine x_aload_n (M := M_X12_point) dX12_point_43 rfl ?_
  refine x_iload_n (M := M_X12_point) dX12_point_44 rfl ?_
  refine x_callSR (M := M_X12_point) (M' := M_X12_isPoint) rfl rfl dX12_point_45 m_X12_isPoint t_3154 t_3155 (q4276 hl c0) rfl rfl (Nat.le_of_ble_eq_true rfl) (Nat.le_of_ble_eq_true rfl) (Nat.le_of_ble_eq_true rfl) (Nat.le_of_ble_eq_true rfl) ?_
  refine x_if_ne (M := M_X12_point) (tgt := 55) dX12_point_48 (by decide) (fun q => absurd q (by decide +kernel)) (fun _ => ?_)
  refine x_iconst (M := M_X12_point) dX12_point_51 ?_
  refine x_goto (M := M_X12_point) (tgt := 56) dX12_point_52 (by decide) ?_
  refine x_iconst (M := M_X12_point) dX12_point_56 ?_
  refine y_callVR (M := M_X12_point) (M' := M_X12_fails) rfl rfl dX12_point_57 m_X12_fails t_2805 t_2807 s_157 (q22 hl w4302) rfl rfl w4302 rfl (Nat.le_of_ble_eq_true rfl) (Nat.le_of_ble_eq_true rfl) (Nat.le_of_ble_eq_true rfl) (Nat.le_of_ble_eq_true rfl) (fun h4304 f4305 w4306 => ?_)
  obtain ⟨o4307, -⟩ := w4306
  refine x_if_ne (M := M_X12_point) (tgt := 73) dX12_point_60 (by decide) (fun _ => ?_) (fun q => absurd q (by decide +kernel))
  exact x_vret (M := M_X12_point) dX12_point_73 rfl ⟨rfl, (fr_tr f4305 (by decide) (fr_tr f4303 (by decide) fr_rf)), ⟨o4307, trivial⟩⟩ (Nat.le_of_ble_eq_true rfl) (Nat.le_of_ble_eq_true rfl)
set_option maxRecDepth 10000 in
theorem lc29_1 {l : Launch} {E : EE} (hl : l.stackTraces = false) (nm : String) {xs : Nat → Int32} (hx : E.2.2.2.2 0 = some (7, xs)) {h : HP} {a0 : Int32} {a1 : Int32} {a2 : Int32} {a3 : Int32} {a4 : Int32} {dg : Int32} (e2 : xs 2 = a0) (e3 : xs 3 = a1) (e4 : xs 4 = a2) (e5 : xs 5 = a3) (e6 : xs 6 = a4) (c0 : a0.toInt < 0) (c1 : ¬ ((lg_cmp ((((((a1.toInt64) <<< (((Int8.ofInt 32).toInt32).toInt64 &&& 63)) ||| ((a2.toInt64) &&& (4294967295 : Int64))).toUInt64 >>> (((Int8.ofInt 52).toInt32).toInt64.toUInt64 &&& Int64.toUInt64 63)).toInt64) &&& (2047 : Int64)) (2047 : Int64)) = 0)) (c2 : (lg_cmp ((((((a3.toInt64) <<< (((Int8.ofInt 32).toInt32).toInt64 &&& 63)) ||| ((a4.toInt64) &&& (4294967295 : Int64))).toUInt64 >>> (((Int8.ofInt 52).toInt32).toInt64.toUInt64 &&& Int64.toUInt64 63)).toInt64) &&& (2047 : Int64)) (2047 : Int64)) = 0) (o4296 : ob h 32 = some (.inr (14, [.ref 33, .ref 162, .ref 166, .int (0 : Int32), .int (0 : Int32), .int (0 : Int32), .ref 167, .ref 170, .ref 173, .ref 177, .ref 193, .ref 208, .ref 222, .ref 238, .ref 252, .ref 274, .ref 275, .ref 276, .int (0 : Int32)]))) (o4309 : ob h 277 = some (.inr (15, (RB dg)))) : XX l E (M_law nm) 1312 342628 8074320 (fun o _ => o = .inl (some (.int 1))) 2153 [some (.ref 0), some (.ref 32), some (.ref 277), some (.ref 359), some (.int (Int32.ofInt 1)), none, none, none] [] h 328 2463747 := by
  refine x_aload_n (M := (M_law nm)) dL_law_2153 rfl ?_
  refine x_aload_n (M := (M_law nm)) dL_law_2154 rfl ?_
  refine x_iload (M := (M_law nm)) dL_law_2155 rfl ?_
  refine x_iconst (M := (M_law nm)) dL_law_2157 ?_
  refine x_iadd (M := (M_law nm)) dL_law_2158 ?_
  refine x_sald (M := (M_law nm)) dL_law_2159 (by decide) hx (vp_inD (by decide +kernel)) ?_
  refine x_top (M := (M_law nm)) (y := a0) ((congrArg xs (by decide +kernel : ((Int32.ofInt 1) + (Int32.ofInt 1)).toNatClampNeg = 2)).trans e2) ?_
  refine x_aload_n (M := (M_law nm)) dL_law_2160 rfl ?_
  refine x_iload (M := (M_law nm)) dL_law_2161 rfl ?_
  refine x_iconst (M := (M_law nm)) dL_law_2163 ?_
  refine x_iadd (M := (M_law nm)) dL_law_2164 ?_
  refine x_sald (M := (M_law nm)) dL_law_2165 (by decide) hx (vp_inD (by decide +kernel)) ?_
  refine x_top (M := (M_law nm)) (y := a1) ((congrArg xs (by decide +kernel : ((Int32.ofInt 1) + (Int32.ofInt 2)).toNatClampNeg = 3)).trans e3) ?_
  refine x_i2l (M := (M_law nm)) dL_law_2166 ?_
  refine x_bipush (M := (M_law nm)) dL_law_2167 ?_
  refine x_lshl (M := (M_law nm)) dL_law_2169 ?_
  refine x_aload_n (M := (M_law nm)) dL_law_2170 rfl ?_
  refine x_iload (M := (M_law nm)) dL_law_2171 rfl ?_
  refine x_iconst (M := (M_law nm)) dL_law_2173 ?_
  refine x_iadd (M := (M_law nm)) dL_law_2174 ?_
  refine x_sald (M := (M_law nm)) dL_law_2175 (by decide) hx (vp_inD (by decide +kernel)) ?_
  refine x_top (M := (M_law nm)) (y := a2) ((congrArg xs (by decide +kernel : ((Int32.ofInt 1) + (Int32.ofInt 3)).toNatClampNeg = 4)).trans e4) ?_
  refine x_i2l (M := (M_law nm)) dL_law_2176 ?_
  refine x_ldc2 (M := (M_law nm)) dL_law_2177 t_3705 ?_
  refine x_land (M := (M_law nm)) dL_law_2180 ?_
  refine x_lor (M := (M_law nm)) dL_law_2181 ?_
  refine x_aload_n (M := (M_law nm)) dL_law_2182 rfl ?_
  refine x_iload (M := (M_law nm)) dL_law_2183 rfl ?_
  refine x_iconst (M := (M_law nm)) dL_law_2185 ?_
  refine x_iadd (M := (M_law nm)) dL_law_2186 ?_
  refine x_sald (M := (M_law nm)) dL_law_2187 (by decide) hx (vp_inD (by decide +kernel)) ?_
  refine x_top (M := (M_law nm)) (y := a3) ((congrArg xs (by decide +kernel : ((Int32.ofInt 1) + (Int32.ofInt 4)).toNatClampNeg = 5)).trans e5) ?_
  refine x_i2l (M := (M_law nm)) dL_law_2188 ?_
  refine x_bipush (M := (M_law nm)) dL_law_2189 ?_
  refine x_lshl (M := (M_law nm)) dL_law_2191 ?_
  refine x_aload_n (M := (M_law nm)) dL_law_2192 rfl ?_
  refine x_iload (M := (M_law nm)) dL_law_2193 rfl ?_
  refine x_iconst (M := (M_law nm)) dL_law_2195 ?_
  refine x_iadd (M := (M_law nm)) dL_law_2196 ?_
  refine x_sald (M := (M_law nm)) dL_law_2197 (by decide) hx (vp_inD (by decide +kernel)) ?_
  refine x_top (M := (M_law nm)) (y := a4) ((congrArg xs (by decide +kernel : ((Int32.ofInt 1) + (Int32.ofInt 5)).toNatClampNeg = 6)).trans e6) ?_
  refine x_i2l (M := (M_law nm)) dL_law_2198 ?_
  refine x_ldc2 (M := (M_law nm)) dL_law_2199 t_3705 ?_
  refine x_land (M := (M_law nm)) dL_law_2202 ?_
  refine x_lor (M := (M_law nm)) dL_law_2203 ?_
  refine y_callSW (M := (M_law nm)) (M' := M_L_point) rfl rfl dL_law_2204 m_L_point t_2302 t_2303 (q4259 hl c0 o4296) rfl rfl (Nat.le_of_ble_eq_true rfl) (Nat.le_of_ble_eq_true rfl) (Nat.le_of_ble_eq_true rfl) (Nat.le_of_ble_eq_true rfl) (fun h4297 f4298 w4299 => ?_)
  refine x_istore (M := (M_law nm)) dL_law_2207 (Nat.le_of_ble_eq_true rfl) rfl ?_
  refine x_aload_n (M := (M_law nm)) dL_law_2209 rfl ?_
  refine x_aload_n (M := (M_law nm)) dL_law_2210 rfl ?_
  refine x_iload (M := (M_law nm)) dL_law_2211 rfl ?_
  refine x_iconst (M := (M_law nm)) dL_law_2213 ?_
  refine x_iadd (M := (M_law nm)) dL_law_2214 ?_
  refine x_sald (M := (M_law nm)) dL_law_2215 (by decide) hx (vp_inD (by decide +kernel)) ?_
  refine x_top (M := (M_law nm)) (y := a0) ((congrArg xs (by decide +kernel : ((Int32.ofInt 1) + (Int32.ofInt 1)).toNatClampNeg = 2)).trans e2) ?_
  refine x_aload_n (M := (M_law nm)) dL_law_2216 rfl ?_
  refine x_iload (M := (M_law nm)) dL_law_2217 rfl ?_
  refine x_iconst (M := (M_law nm)) dL_law_2219 ?_
  refine x_iadd (M := (M_law nm)) dL_law_2220 ?_
  refine x_sald (M := (M_law nm)) dL_law_2221 (by decide) hx (vp_inD (by decide +kernel)) ?_
  refine x_top (M := (M_law nm)) (y := a1) ((congrArg xs (by decide +kernel : ((Int32.ofInt 1) + (Int32.ofInt 2)).toNatClampNeg = 3)).trans e3) ?_
  refine x_i2l (M := (M_law nm)) dL_law_2222 ?_
  refine x_bipush (M := (M_law nm)) dL_law_2223 ?_
  refine x_lshl (M := (M_law nm)) dL_law_2225 ?_
  refine x_aload_n (M := (M_law nm)) dL_law_2226 rfl ?_
  refine x_iload (M := (M_law nm)) dL_law_2227 rfl ?_
  refine x_iconst (M := (M_law nm)) dL_law_2229 ?_
  refine x_iadd (M := (M_law nm)) dL_law_2230 ?_
  refine x_sald (M := (M_law nm)) dL_law_2231 (by decide) hx (vp_inD (by decide +kernel)) ?_
  refine x_top (M := (M_law nm)) (y := a2) ((congrArg xs (by decide +kernel : ((Int32.ofInt 1) + (Int32.ofInt 3)).toNatClampNeg = 4)).trans e4) ?_
  refine x_i2l (M := (M_law nm)) dL_law_2232 ?_
  refine x_ldc2 (M := (M_law nm)) dL_law_2233 t_3705 ?_
  refine x_land (M := (M_law nm)) dL_law_2236 ?_
  refine x_lor (M := (M_law nm)) dL_law_2237 ?_
  refine x_aload_n (M := (M_law nm)) dL_law_2238 rfl ?_
  refine x_iload (M := (M_law nm)) dL_law_2239 rfl ?_
  refine x_iconst (M := (M_law nm)) dL_law_2241 ?_
  refine x_iadd (M := (M_law nm)) dL_law_2242 ?_
  refine x_sald (M := (M_law nm)) dL_law_2243 (by decide) hx (vp_inD (by decide +kernel)) ?_
  refine x_top (M := (M_law nm)) (y := a3) ((congrArg xs (by decide +kernel : ((Int32.ofInt 1) + (Int32.ofInt 4)).toNatClampNeg = 5)).trans e5) ?_
  refine x_i2l (M := (M_law nm)) dL_law_2244 ?_
  refine x_bipush (M := (M_law nm)) dL_law_2245 ?_
  refine x_lshl (M := (M_law nm)) dL_law_2247 ?_
  refine x_aload_n (M := (M_law nm)) dL_law_2248 rfl ?_
  refine x_iload (M := (M_law nm)) dL_law_2249 rfl ?_
  refine x_iconst (M := (M_law nm)) dL_law_2251 ?_
  refine x_iadd (M := (M_law nm)) dL_law_2252 ?_
  refine x_sald (M := (M_law nm)) dL_law_2253 (by decide) hx (vp_inD (by decide +kernel)) ?_
  refine x_top (M := (M_law nm)) (y := a4) ((congrArg xs (by decide +kernel : ((Int32.ofInt 1) + (Int32.ofInt 5)).toNatClampNeg = 6)).trans e6) ?_
  refine x_i2l (M := (M_law nm)) dL_law_2254 ?_
  refine x_ldc2 (M := (M_law nm)) dL_law_2255 t_3705 ?_
  refine x_land (M := (M_law nm)) dL_law_2258 ?_
  refine x_lor (M := (M_law nm)) dL_law_2259 ?_
  have o4310 := (f4298 277 _ (by decide) o4309)
  refine y_callVR (M := (M_law nm)) (M' := M_X12_point) rfl rfl dL_law_2260 m_X12_point t_3150 t_3151 t_3152 (q4308 hl c0 c1 c2 o4310) rfl rfl o4310 rfl (Nat.le_of_ble_eq_true rfl) (Nat.le_of_ble_eq_true rfl) (Nat.le_of_ble_eq_true rfl) (Nat.le_of_ble_eq_true rfl) (fun h4311 f4312 w4313 => ?_)
  obtain ⟨o4314, -⟩ := w4313
  refine x_aload_n (M := (M_law nm)) dL_law_2263 rfl ?_
  refine x_callVR (M := (M_law nm)) (M' := M_X12_thrown) rfl rfl dL_law_2264 m_X12_thrown t_2797 t_2798 t_2799 (q35 hl o4314) rfl rfl o4314 rfl (Nat.le_of_ble_eq_true rfl) (Nat.le_of_ble_eq_true rfl) (Nat.le_of_ble_eq_true rfl) (Nat.le_of_ble_eq_true rfl) ?_
  refine x_iload (M := (M_law nm)) dL_law_2267 rfl ?_
  refine x_icmp_eq (M := (M_law nm)) (tgt := 2274) dL_law_2269 (by decide) (fun _ => ?_) (fun q => absurd q (by decide +kernel))
  refine x_goto (M := (M_law nm)) (tgt := 2449) dL_law_2274 (by decide) ?_
  refine x_iinc (M := (M_law nm)) dL_law_2449 rfl (Nat.le_of_ble_eq_true rfl) rfl ?_
  refine x_lvs (M := (M_law nm)) (lv' := [some (.ref 0), some (.ref 32), some (.ref 277), some (.ref 359), some (.int (Int32.ofInt 7)), some (.int (Int32.ofInt 1)), none, none]) (by rw [(by decide +kernel : (Int32.ofInt 1) + Int32.ofInt 6 = (Int32.ofInt 7))] <;> rfl) ?_
  refine x_goto (M := (M_law nm)) (tgt := 33) dL_law_2452 (by decide) ?_
  refine x_iload (M := (M_law nm)) dL_law_33 rfl ?_
  refine x_aload_n (M := (M_law nm)) dL_law_35 rfl ?_
  refine x_slen (M := (M_law nm)) dL_law_36 (by decide) hx ?_
  refine x_bipush (M := (M_law nm)) dL_law_37 ?_
  refine x_isub (M := (M_law nm)) dL_law_39 ?_
  refine x_icmp_gt (M := (M_law nm)) (tgt := 2455) dL_law_40 (by decide) (fun _ => ?_) (fun q => absurd q (by decide +kernel))
  refine x_iconst (M := (M_law nm)) dL_law_2455 ?_
  exact x_zret (M := (M_law nm)) dL_law_2456 rfl (by decide) rfl (Nat.le_of_ble_eq_true rfl) (Nat.le_of_ble_eq_true rfl)
set_option maxRecDepth 10000 in
theorem q4327 {l : Launch} {E : EE} (hl : l.stackTraces = false) {h : HP} {a0 : Int32} {a1 : Int32} {a2 : Int32} {a3 : Int32} {a4 : Int32} {dg : Int32} (c0 : a0.toInt < 0) (c1 : ¬ ((lg_cmp ((((((a1.toInt64) <<< (((Int8.ofInt 32).toInt32).toInt64 &&& 63)) ||| ((a2.toInt64) &&& (4294967295 : Int64))).toUInt64 >>> (((Int8.ofInt 52).toInt32).toInt64.toUInt64 &&& Int64.toUInt64 63)).toInt64) &&& (2047 : Int64)) (2047 : Int64)) = 0)) (c2 : ¬ ((lg_cmp ((((((a3.toInt64) <<< (((Int8.ofInt 32).toInt32).toInt64 &&& 63)) ||| ((a4.toInt64) &&& (4294967295 : Int64))).toUInt64 >>> (((Int8.ofInt 52).toInt32).toInt64.toUInt64 &&& Int64.toUInt64 63)).toInt64) &&& (2047 : Int64)) (2047 : Int64)) = 0)) (o4319 : ob h 277 = some (.inr (15, (RB dg)))) : en_C l E M_X12_point 1 0 0 [.ref 277, .int a0, .long (((a1.toInt64) <<< (((Int8.ofInt 32).toInt32).toInt64 &&& 63)) ||| ((a2.toInt64) &&& (4294967295 : Int64))), .long (((a3.toInt64) <<< (((Int8.ofInt 32).toInt32).toInt64 &&& 63)) ||| ((a4.toInt64) &&& (4294967295 : Int64)))] h (pF none [277] h (fun h' => ob h' 277 = some (.inr (15, ((RB dg).set 0 (.int (Int32.ofInt 1))))) ∧ True)) := by
  refine en_mk m_X12_point rfl hl (Nat.le_of_ble_eq_true rfl) ?_
  refine x_aload_n (M := M_X12_point) dX12_point_0 rfl ?_
  refine x_iconst (M := M_X12_point) dX12_point_1 ?_
  refine y_put (M := M_X12_point) (ci := 15) (C := RX12) (T := TX12) (N := 135) (ty := tyX12) cl15 dX12_point_2 o4319 0 (by decide) t_2391 (Or.inl rfl) (Nat.le_of_ble_eq_true rfl) rfl (fun h4320 w4321 f4322 => ?_)
  refine x_lload_n (M := M_X12_point) dX12_point_5 rfl ?_
  refine x_bipush (M := M_X12_point) dX12_point_6 ?_
  refine x_lushr (M := M_X12_point) dX12_point_8 ?_
  refine x_ldc2 (M := M_X12_point) dX12_point_9 t_2994 ?_
  refine x_land (M := M_X12_point) dX12_point_12 ?_
  refine x_ldc2 (M := M_X12_point) dX12_point_13 t_2994 ?_
  refine x_lcmp (M := M_X12_point) dX12_point_16 ?_
  refine x_if_eq (M := M_X12_point) (tgt := 36) dX12_point_17 (by decide) (fun q => absurd q c1) (fun _ => ?_)
  refine x_lload (M := M_X12_point) dX12_point_20 rfl ?_
  refine x_bipush (M := M_X12_point) dX12_point_22 ?_
  refine x_lushr (M := M_X12_point) dX12_point_24 ?_
  refine x_ldc2 (M := M_X12_point) dX12_point_25 t_2994 ?_
  refine x_land (M := M_X12_point) dX12_point_28 ?_
  refine x_ldc2 (M := M_X12_point) dX12_point_29 t_2994 ?_
  refine x_lcmp (M := M_X12_point) dX12_point_32 ?_
  refine x_if_ne (M := M_X12_point) (tgt := 40) dX12_point_33 (by decide) (fun _ => ?_) (fun q => absurd q c2)
  refine x_iconst (M := M_X12_point) dX12_point_40 ?_
  refine x_istore (M := M_X12_point) dX12_point_41 (Nat.le_of_ble_eq_true rfl) rfl ?_
  refine x_aload_n (M := M_X12_point) dX12_point_43 rfl ?_
  refine x_iload_n (M := M_X12_point) dX12_point_44 rfl ?_
  refine x_callSR (M := M_X12_point) (M' := M_X12_isPoint) rfl rfl dX12_point_45 m_X12_isPoint t_3154 t_3155 (q4276 hl c0) rfl rfl (Nat.le_of_ble_eq_true rfl) (Nat.le_of_ble_eq_true rfl) (Nat.le_of_ble_eq_true rfl) (Nat.le_of_ble_eq_true rfl) ?_
  refine x_if_ne (M := M_X12_point) (tgt := 55) dX12_point_48 (by decide) (fun q => absurd q (by decide +kernel)) (fun _ => ?_)
  refine x_iconst (M := M_X12_point) dX12_point_51 ?_
  refine x_goto (M := M_X12_point) (tgt := 56) dX12_point_52 (by decide) ?_
  refine x_iconst (M := M_X12_point) dX12_point_56 ?_
  refine y_callVR (M := M_X12_point) (M' := M_X12_fails) rfl rfl dX12_point_57 m_X12_fails t_2805 t_2807 s_157 (q22 hl w4321) rfl rfl w4321 rfl (Nat.le_of_ble_eq_true rfl) (Nat.le_of_ble_eq_true rfl) (Nat.le_of_ble_eq_true rfl) (Nat.le_of_ble_eq_true rfl) (fun h4323 f4324 w4325 => ?_)
  obtain ⟨o4326, -⟩ := w4325
  refine x_if_ne (M := M_X12_point) (tgt := 73) dX12_point_60 (by decide) (fun _ => ?_) (fun q => absurd q (by decide +kernel))
  exact x_vret (M := M_X12_point) dX12_point_73 rfl ⟨rfl, (fr_tr f4324 (by decide) (fr_tr f4322 (by decide) fr_rf)), ⟨o4326, trivial⟩⟩ (Nat.le_of_ble_eq_true rfl) (Nat.le_of_ble_eq_true rfl)
set_option maxRecDepth 10000 in
theorem lc29_2 {l : Launch} {E : EE} (hl : l.stackTraces = false) (nm : String) {xs : Nat → Int32} (hx : E.2.2.2.2 0 = some (7, xs)) {h : HP} {a0 : Int32} {a1 : Int32} {a2 : Int32} {a3 : Int32} {a4 : Int32} {dg : Int32} (e2 : xs 2 = a0) (e3 : xs 3 = a1) (e4 : xs 4 = a2) (e5 : xs 5 = a3) (e6 : xs 6 = a4) (c0 : a0.toInt < 0) (c1 : ¬ ((lg_cmp ((((((a1.toInt64) <<< (((Int8.ofInt 32).toInt32).toInt64 &&& 63)) ||| ((a2.toInt64) &&& (4294967295 : Int64))).toUInt64 >>> (((Int8.ofInt 52).toInt32).toInt64.toUInt64 &&& Int64.toUInt64 63)).toInt64) &&& (2047 : Int64)) (2047 : Int64)) = 0)) (c2 : ¬ ((lg_cmp ((((((a3.toInt64) <<< (((Int8.ofInt 32).toInt32).toInt64 &&& 63)) ||| ((a4.toInt64) &&& (4294967295 : Int64))).toUInt64 >>> (((Int8.ofInt 52).toInt32).toInt64.toUInt64 &&& Int64.toUInt64 63)).toInt64) &&& (2047 : Int64)) (2047 : Int64)) = 0)) (o4315 : ob h 32 = some (.inr (14, [.ref 33, .ref 162, .ref 166, .int (0 : Int32), .int (0 : Int32), .int (0 : Int32), .ref 167, .ref 170, .ref 173, .ref 177, .ref 193, .ref 208, .ref 222, .ref 238, .ref 252, .ref 274, .ref 275, .ref 276, .int (0 : Int32)]))) (o4328 : ob h 277 = some (.inr (15, (RB dg)))) : XX l E (M_law nm) 1312 342628 8074320 (fun o _ => o = .inl (some (.int 1))) 2153 [some (.ref 0), some (.ref 32), some (.ref 277), some (.ref 359), some (.int (Int32.ofInt 1)), none, none, none] [] h 328 2463747 := by
  refine x_aload_n (M := (M_law nm)) dL_law_2153 rfl ?_
  refine x_aload_n (M := (M_law nm)) dL_law_2154 rfl ?_
  refine x_iload (M := (M_law nm)) dL_law_2155 rfl ?_
  refine x_iconst (M := (M_law nm)) dL_law_2157 ?_
  refine x_iadd (M := (M_law nm)) dL_law_2158 ?_
  refine x_sald (M := (M_law nm)) dL_law_2159 (by decide) hx (vp_inD (by decide +kernel)) ?_
  refine x_top (M := (M_law nm)) (y := a0) ((congrArg xs (by decide +kernel : ((Int32.ofInt 1) + (Int32.ofInt 1)).toNatClampNeg = 2)).trans e2) ?_
  refine x_aload_n (M := (M_law nm)) dL_law_2160 rfl ?_
  refine x_iload (M := (M_law nm)) dL_law_2161 rfl ?_
  refine x_iconst (M := (M_law nm)) dL_law_2163 ?_
  refine x_iadd (M := (M_law nm)) dL_law_2164 ?_
  refine x_sald (M := (M_law nm)) dL_law_2165 (by decide) hx (vp_inD (by decide +kernel)) ?_
  refine x_top (M := (M_law nm)) (y := a1) ((congrArg xs (by decide +kernel : ((Int32.ofInt 1) + (Int32.ofInt 2)).toNatClampNeg = 3)).trans e3) ?_
  refine x_i2l (M := (M_law nm)) dL_law_2166 ?_
  refine x_bipush (M := (M_law nm)) dL_law_2167 ?_
  refine x_lshl (M := (M_law nm)) dL_law_2169 ?_
  refine x_aload_n (M := (M_law nm)) dL_law_2170 rfl ?_
  refine x_iload (M := (M_law nm)) dL_law_2171 rfl ?_
  refine x_iconst (M := (M_law nm)) dL_law_2173 ?_
  refine x_iadd (M := (M_law nm)) dL_law_2174 ?_
  refine x_sald (M := (M_law nm)) dL_law_2175 (by decide) hx (vp_inD (by decide +kernel)) ?_
  refine x_top (M := (M_law nm)) (y := a2) ((congrArg xs (by decide +kernel : ((Int32.ofInt 1) + (Int32.ofInt 3)).toNatClampNeg = 4)).trans e4) ?_
  refine x_i2l (M := (M_law nm)) dL_law_2176 ?_
  refine x_ldc2 (M := (M_law nm)) dL_law_2177 t_3705 ?_
  refine x_land (M := (M_law nm)) dL_law_2180 ?_
  refine x_lor (M := (M_law nm)) dL_law_2181 ?_
  refine x_aload_n (M := (M_law nm)) dL_law_2182 rfl ?_
  refine x_iload (M := (M_law nm)) dL_law_2183 rfl ?_
  refine x_iconst (M := (M_law nm)) dL_law_2185 ?_
  refine x_iadd (M := (M_law nm)) dL_law_2186 ?_
  refine x_sald (M := (M_law nm)) dL_law_2187 (by decide) hx (vp_inD (by decide +kernel)) ?_
  refine x_top (M := (M_law nm)) (y := a3) ((congrArg xs (by decide +kernel : ((Int32.ofInt 1) + (Int32.ofInt 4)).toNatClampNeg = 5)).trans e5) ?_
  refine x_i2l (M := (M_law nm)) dL_law_2188 ?_
  refine x_bipush (M := (M_law nm)) dL_law_2189 ?_
  refine x_lshl (M := (M_law nm)) dL_law_2191 ?_
  refine x_aload_n (M := (M_law nm)) dL_law_2192 rfl ?_
  refine x_iload (M := (M_law nm)) dL_law_2193 rfl ?_
  refine x_iconst (M := (M_law nm)) dL_law_2195 ?_
  refine x_iadd (M := (M_law nm)) dL_law_2196 ?_
  refine x_sald (M := (M_law nm)) dL_law_2197 (by decide) hx (vp_inD (by decide +kernel)) ?_
  refine x_top (M := (M_law nm)) (y := a4) ((congrArg xs (by decide +kernel : ((Int32.ofInt 1) + (Int32.ofInt 5)).toNatClampNeg = 6)).trans e6) ?_
  refine x_i2l (M := (M_law nm)) dL_law_2198 ?_
  refine x_ldc2 (M := (M_law nm)) dL_law_2199 t_3705 ?_
  refine x_land (M := (M_law nm)) dL_law_2202 ?_
  refine x_lor (M := (M_law nm)) dL_law_2203 ?_
  refine y_callSW (M := (M_law nm)) (M' := M_L_point) rfl rfl dL_law_2204 m_L_point t_2302 t_2303 (q4259 hl c0 o4315) rfl rfl (Nat.le_of_ble_eq_true rfl) (Nat.le_of_ble_eq_true rfl) (Nat.le_of_ble_eq_true rfl) (Nat.le_of_ble_eq_true rfl) (fun h4316 f4317 w4318 => ?_)
  refine x_istore (M := (M_law nm)) dL_law_2207 (Nat.le_of_ble_eq_true rfl) rfl ?_
  refine x_aload_n (M := (M_law nm)) dL_law_2209 rfl ?_
  refine x_aload_n (M := (M_law nm)) dL_law_2210 rfl ?_
  refine x_iload (M := (M_law nm)) dL_law_2211 rfl ?_
  refine x_iconst (M := (M_law nm)) dL_law_2213 ?_
  refine x_iadd (M := (M_law nm)) dL_law_2214 ?_
  refine x_sald (M := (M_law nm)) dL_law_2215 (by decide) hx (vp_inD (by decide +kernel)) ?_
  refine x_top (M := (M_law nm)) (y := a0) ((congrArg xs (by decide +kernel : ((Int32.ofInt 1) + (Int32.ofInt 1)).toNatClampNeg = 2)).trans e2) ?_
  refine x_aload_n (M := (M_law nm)) dL_law_2216 rfl ?_
  refine x_iload (M := (M_law nm)) dL_law_2217 rfl ?_
  refine x_iconst (M := (M_law nm)) dL_law_2219 ?_
  refine x_iadd (M := (M_law nm)) dL_law_2220 ?_
  refine x_sald (M := (M_law nm)) dL_law_2221 (by decide) hx (vp_inD (by decide +kernel)) ?_
  refine x_top (M := (M_law nm)) (y := a1) ((congrArg xs (by decide +kernel : ((Int32.ofInt 1) + (Int32.ofInt 2)).toNatClampNeg = 3)).trans e3) ?_
  refine x_i2l (M := (M_law nm)) dL_law_2222 ?_
  refine x_bipush (M := (M_law nm)) dL_law_2223 ?_
  refine x_lshl (M := (M_law nm)) dL_law_2225 ?_
  refine x_aload_n (M := (M_law nm)) dL_law_2226 rfl ?_
  refine x_iload (M := (M_law nm)) dL_law_2227 rfl ?_
  refine x_iconst (M := (M_law nm)) dL_law_2229 ?_
  refine x_iadd (M := (M_law nm)) dL_law_2230 ?_
  refine x_sald (M := (M_law nm)) dL_law_2231 (by decide) hx (vp_inD (by decide +kernel)) ?_
  refine x_top (M := (M_law nm)) (y := a2) ((congrArg xs (by decide +kernel : ((Int32.ofInt 1) + (Int32.ofInt 3)).toNatClampNeg = 4)).trans e4) ?_
  refine x_i2l (M := (M_law nm)) dL_law_2232 ?_
  refine x_ldc2 (M := (M_law nm)) dL_law_2233 t_3705 ?_
  refine x_land (M := (M_law nm)) dL_law_2236 ?_
  refine x_lor (M := (M_law nm)) dL_law_2237 ?_
  refine x_aload_n (M := (M_law nm)) dL_law_2238 rfl ?_
  refine x_iload (M := (M_law nm)) dL_law_2239 rfl ?_
  refine x_iconst (M := (M_law nm)) dL_law_2241 ?_
  refine x_iadd (M := (M_law nm)) dL_law_2242 ?_
  refine x_sald (M := (M_law nm)) dL_law_2243 (by decide) hx (vp_inD (by decide +kernel)) ?_
  refine x_top (M := (M_law nm)) (y := a3) ((congrArg xs (by decide +kernel : ((Int32.ofInt 1) + (Int32.ofInt 4)).toNatClampNeg = 5)).trans e5) ?_
  refine x_i2l (M := (M_law nm)) dL_law_2244 ?_
  refine x_bipush (M := (M_law nm)) dL_law_2245 ?_
  refine x_lshl (M := (M_law nm)) dL_law_2247 ?_
  refine x_aload_n (M := (M_law nm)) dL_law_2248 rfl ?_
  refine x_iload (M := (M_law nm)) dL_law_2249 rfl ?_
  refine x_iconst (M := (M_law nm)) dL_law_2251 ?_
  refine x_iadd (M := (M_law nm)) dL_law_2252 ?_
  refine x_sald (M := (M_law nm)) dL_law_2253 (by decide) hx (vp_inD (by decide +kernel)) ?_
  refine x_top (M := (M_law nm)) (y := a4) ((congrArg xs (by decide +kernel : ((Int32.ofInt 1) + (Int32.ofInt 5)).toNatClampNeg = 6)).trans e6) ?_
  refine x_i2l (M := (M_law nm)) dL_law_2254 ?_
  refine x_ldc2 (M := (M_law nm)) dL_law_2255 t_3705 ?_
  refine x_land (M := (M_law nm)) dL_law_2258 ?_
  refine x_lor (M := (M_law nm)) dL_law_2259 ?_
  have o4329 := (f4317 277 _ (by decide) o4328)
  refine y_callVR (M := (M_law nm)) (M' := M_X12_point) rfl rfl dL_law_2260 m_X12_point t_3150 t_3151 t_3152 (q4327 hl c0 c1 c2 o4329) rfl rfl o4329 rfl (Nat.le_of_ble_eq_true rfl) (Nat.le_of_ble_eq_true rfl) (Nat.le_of_ble_eq_true rfl) (Nat.le_of_ble_eq_true rfl) (fun h4330 f4331 w4332 => ?_)
  obtain ⟨o4333, -⟩ := w4332
  refine x_aload_n (M := (M_law nm)) dL_law_2263 rfl ?_
  refine x_callVR (M := (M_law nm)) (M' := M_X12_thrown) rfl rfl dL_law_2264 m_X12_thrown t_2797 t_2798 t_2799 (q35 hl o4333) rfl rfl o4333 rfl (Nat.le_of_ble_eq_true rfl) (Nat.le_of_ble_eq_true rfl) (Nat.le_of_ble_eq_true rfl) (Nat.le_of_ble_eq_true rfl) ?_
  refine x_iload (M := (M_law nm)) dL_law_2267 rfl ?_
  refine x_icmp_eq (M := (M_law nm)) (tgt := 2274) dL_law_2269 (by decide) (fun _ => ?_) (fun q => absurd q (by decide +kernel))
  refine x_goto (M := (M_law nm)) (tgt := 2449) dL_law_2274 (by decide) ?_
  refine x_iinc (M := (M_law nm)) dL_law_2449 rfl (Nat.le_of_ble_eq_true rfl) rfl ?_
  refine x_lvs (M := (M_law nm)) (lv' := [some (.ref 0), some (.ref 32), some (.ref 277), some (.ref 359), some (.int (Int32.ofInt 7)), some (.int (Int32.ofInt 1)), none, none]) (by rw [(by decide +kernel : (Int32.ofInt 1) + Int32.ofInt 6 = (Int32.ofInt 7))] <;> rfl) ?_
  refine x_goto (M := (M_law nm)) (tgt := 33) dL_law_2452 (by decide) ?_
  refine x_iload (M := (M_law nm)) dL_law_33 rfl ?_
  refine x_aload_n (M := (M_law nm)) dL_law_35 rfl ?_
  refine x_slen (M := (M_law nm)) dL_law_36 (by decide) hx ?_
  refine x_bipush (M := (M_law nm)) dL_law_37 ?_
  refine x_isub (M := (M_law nm)) dL_law_39 ?_
  refine x_icmp_gt (M := (M_law nm)) (tgt := 2455) dL_law_40 (by decide) (fun _ => ?_) (fun q => absurd q (by decide +kernel))
  refine x_iconst (M := (M_law nm)) dL_law_2455 ?_
  exact x_zret (M := (M_law nm)) dL_law_2456 rfl (by decide) rfl (Nat.le_of_ble_eq_true rfl) (Nat.le_of_ble_eq_true rfl)
set_option maxRecDepth 10000 in
theorem q4334 {l : Launch} {E : EE} (hl : l.stackTraces = false) {h : HP} {a0 : Int32} (c0 : ¬ (a0.toInt < 0)) (c1 : a0.toInt < 32) : en_C l E M_X11_isNoSignPoint 0 0 0 [.int a0] h (pR (some (.int (Int32.ofInt 0))) h) := by
  refine en_mk m_X11_isNoSignPoint rfl hl (Nat.le_of_ble_eq_true rfl) ?_
  refine x_iload_n (M := M_X11_isNoSignPoint) dX11_isNoSignPoint_0 rfl ?_
  refine x_if_lt (M := M_X11_isNoSignPoint) (tgt := 10) dX11_isNoSignPoint_1 (by decide) (fun q => absurd ((bi_lt rfl (by decide +kernel)).mp q) (by omega : ¬ (a0.toInt < 0))) (fun _ => ?_)
  refine x_iload_n (M := M_X11_isNoSignPoint) dX11_isNoSignPoint_4 rfl ?_
  refine x_bipush (M := M_X11_isNoSignPoint) dX11_isNoSignPoint_5 ?_
  refine x_icmp_lt (M := M_X11_isNoSignPoint) (tgt := 14) dX11_isNoSignPoint_7 (by decide) (fun _ => ?_) (fun q => absurd ((bi_lt rfl (by decide +kernel)).mpr (by omega : (a0.toInt < 32 : Prop))) q)
  refine x_iconst (M := M_X11_isNoSignPoint) dX11_isNoSignPoint_14 ?_
  exact x_zret (M := M_X11_isNoSignPoint) dX11_isNoSignPoint_15 rfl (by decide) ⟨rfl, rfl⟩ (Nat.le_of_ble_eq_true rfl) (Nat.le_of_ble_eq_true rfl)
set_option maxRecDepth 10000 in
theorem q4335 {l : Launch} {E : EE} (hl : l.stackTraces = false) {h : HP} {a1 : Int32} {a2 : Int32} (c0 : (lg_cmp ((((((a1.toInt64) <<< (((Int8.ofInt 32).toInt32).toInt64 &&& 63)) ||| ((a2.toInt64) &&& (4294967295 : Int64))).toUInt64 >>> (((Int8.ofInt 52).toInt32).toInt64.toUInt64 &&& Int64.toUInt64 63)).toInt64) &&& (2047 : Int64)) (2047 : Int64)) = 0) : en_C l E M_X11_isNoNumber 0 0 0 [.long (((a1.toInt64) <<< (((Int8.ofInt 32).toInt32).toInt64 &&& 63)) ||| ((a2.toInt64) &&& (4294967295 : Int64)))] h (pR (some (.int (Int32.ofInt 1))) h) := by
  refine en_mk m_X11_isNoNumber rfl hl (Nat.le_of_ble_eq_true rfl) ?_
  refine x_lload_n (M := M_X11_isNoNumber) dX11_isNoNumber_0 rfl ?_
  refine x_bipush (M := M_X11_isNoNumber) dX11_isNoNumber_1 ?_
  refine x_lushr (M := M_X11_isNoNumber) dX11_isNoNumber_3 ?_
  refine x_ldc2 (M := M_X11_isNoNumber) dX11_isNoNumber_4 t_2315 ?_
  refine x_land (M := M_X11_isNoNumber) dX11_isNoNumber_7 ?_
  refine x_ldc2 (M := M_X11_isNoNumber) dX11_isNoNumber_8 t_2315 ?_
  refine x_lcmp (M := M_X11_isNoNumber) dX11_isNoNumber_11 ?_
  refine x_if_ne (M := M_X11_isNoNumber) (tgt := 19) dX11_isNoNumber_12 (by decide) (fun q => absurd c0 q) (fun _ => ?_)
  refine x_iconst (M := M_X11_isNoNumber) dX11_isNoNumber_15 ?_
  refine x_goto (M := M_X11_isNoNumber) (tgt := 20) dX11_isNoNumber_16 (by decide) ?_
  exact x_zret (M := M_X11_isNoNumber) dX11_isNoNumber_20 rfl (by decide) ⟨rfl, rfl⟩ (Nat.le_of_ble_eq_true rfl) (Nat.le_of_ble_eq_true rfl)
set_option maxRecDepth 10000 in
theorem q4337 {l : Launch} {E : EE} (hl : l.stackTraces = false) {h : HP} {a0 : Int32} {a1 : Int32} {a2 : Int32} {a3 : Int32} {a4 : Int32} (c0 : ¬ (a0.toInt < 0)) (c1 : a0.toInt < 32) (c2 : (lg_cmp ((((((a1.toInt64) <<< (((Int8.ofInt 32).toInt32).toInt64 &&& 63)) ||| ((a2.toInt64) &&& (4294967295 : Int64))).toUInt64 >>> (((Int8.ofInt 52).toInt32).toInt64.toUInt64 &&& Int64.toUInt64 63)).toInt64) &&& (2047 : Int64)) (2047 : Int64)) = 0) : en_C l E M_X11_point 6 1 6 [.ref 32, .int a0, .long (((a1.toInt64) <<< (((Int8.ofInt 32).toInt32).toInt64 &&& 63)) ||| ((a2.toInt64) &&& (4294967295 : Int64))), .long (((a3.toInt64) <<< (((Int8.ofInt 32).toInt32).toInt64 &&& 63)) ||| ((a4.toInt64) &&& (4294967295 : Int64)))] h (pT "java/lang/IllegalArgumentException" [] h (fun _ => True)) := by
  refine en_mk m_X11_point rfl hl (Nat.le_of_ble_eq_true rfl) ?_
  refine x_iload_n (M := M_X11_point) dX11_point_0 rfl ?_
  refine x_callSR (M := M_X11_point) (M' := M_X11_isNoSignPoint) rfl rfl dX11_point_1 m_X11_isNoSignPoint t_2309 t_2310 (q4334 hl c0 c1) rfl rfl (Nat.le_of_ble_eq_true rfl) (Nat.le_of_ble_eq_true rfl) (Nat.le_of_ble_eq_true rfl) (Nat.le_of_ble_eq_true rfl) ?_
  refine x_if_eq (M := M_X11_point) (tgt := 15) dX11_point_4 (by decide) (fun _ => ?_) (fun q => absurd q (by decide +kernel))
  refine x_lload_n (M := M_X11_point) dX11_point_15 rfl ?_
  refine x_callSR (M := M_X11_point) (M' := M_X11_isNoNumber) rfl rfl dX11_point_16 m_X11_isNoNumber t_2312 t_2313 (q4335 hl c2) rfl rfl (Nat.le_of_ble_eq_true rfl) (Nat.le_of_ble_eq_true rfl) (Nat.le_of_ble_eq_true rfl) (Nat.le_of_ble_eq_true rfl) ?_
  refine x_if_ne (M := M_X11_point) (tgt := 30) dX11_point_19 (by decide) (fun _ => ?_) (fun q => absurd q (by decide +kernel))
  exact x_throw (M := M_X11_point) (names := en_nm) rfl dX11_point_30 dX11_point_33 dX11_point_34 dX11_point_37 (by decide +kernel) en_nm_ok (Or.inl t_721) (Or.inl t_19) (at_X11_IllegalArgumentException_118) (Nat.le_of_ble_eq_true rfl) (Nat.le_of_ble_eq_true rfl) (Nat.le_of_ble_eq_true rfl) (Nat.le_of_ble_eq_true rfl) (fun n9 => ⟨rfl, (fr_tr (fr_app (List.replicate n9 none)) (fun _ h => nomatch h) fr_rf), trivial⟩)
set_option maxRecDepth 10000 in
theorem q4342 {l : Launch} {E : EE} (hl : l.stackTraces = false) {h : HP} {a0 : Int32} {a1 : Int32} {a2 : Int32} {a3 : Int32} {a4 : Int32} (c0 : ¬ (a0.toInt < 0)) (c1 : a0.toInt < 32) (c2 : (lg_cmp ((((((a1.toInt64) <<< (((Int8.ofInt 32).toInt32).toInt64 &&& 63)) ||| ((a2.toInt64) &&& (4294967295 : Int64))).toUInt64 >>> (((Int8.ofInt 52).toInt32).toInt64.toUInt64 &&& Int64.toUInt64 63)).toInt64) &&& (2047 : Int64)) (2047 : Int64)) = 0) (o4338 : ob h 32 = some (.inr (14, [.ref 33, .ref 162, .ref 166, .int (0 : Int32), .int (0 : Int32), .int (0 : Int32), .ref 167, .ref 170, .ref 173, .ref 177, .ref 193, .ref 208, .ref 222, .ref 238, .ref 252, .ref 274, .ref 275, .ref 276, .int (0 : Int32)]))) : en_C l E M_L_point 7 1 6 [.ref 32, .int a0, .long (((a1.toInt64) <<< (((Int8.ofInt 32).toInt32).toInt64 &&& 63)) ||| ((a2.toInt64) &&& (4294967295 : Int64))), .long (((a3.toInt64) <<< (((Int8.ofInt 32).toInt32).toInt64 &&& 63)) ||| ((a4.toInt64) &&& (4294967295 : Int64)))] h (pF (some (.int (Int32.ofInt 2))) [] h (fun _ => True)) := by
  refine en_mkW m_L_point rfl hl (Nat.le_of_ble_eq_true rfl) ?_
  refine x_aload_n (M := M_L_point) dL_point_0 rfl ?_
  refine x_iload_n (M := M_L_point) dL_point_1 rfl ?_
  refine x_lload_n (M := M_L_point) dL_point_2 rfl ?_
  refine x_lload (M := M_L_point) dL_point_3 rfl ?_
  refine y_callVHX (M := M_L_point) (M' := M_X11_point) (i9 := 6) (nx := 17) rfl dL_point_5 m_X11_point t_2305 t_2306 t_2307 o4338 rfl (q4337 hl c0 c1 c2) rfl rfl (Nat.le_of_ble_eq_true rfl) (Nat.le_of_ble_eq_true rfl) (Nat.le_of_ble_eq_true rfl) (Nat.le_of_ble_eq_true rfl) (en_hdm (k0 := 6) [(0, 8, 11, 24)] [] rfl (List.forall_mem_cons.mpr ⟨⟨by decide, "java/lang/IndexOutOfBoundsException", t_739, by decide +kernel, by decide +kernel, by decide +kernel⟩, (fun _ h => nomatch h)⟩) (by decide +kernel) (by decide) t_716 n_723 dL_point_15) (by decide) rfl (fun h4339 f4340 w4341 => ?_)
  refine x_iconst (M := M_L_point) dL_point_17 ?_
  exact x_iret (M := M_L_point) dL_point_18 rfl ⟨rfl, (fr_tr f4340 (fun _ h => nomatch h) fr_rf), trivial⟩ (Nat.le_of_ble_eq_true rfl) (Nat.le_of_ble_eq_true rfl)
set_option maxRecDepth 10000 in
theorem q4351 {l : Launch} {E : EE} (hl : l.stackTraces = false) {h : HP} {a0 : Int32} (c0 : ¬ (a0.toInt < 0)) (c1 : a0.toInt < 32) : en_C l E M_X12_isPoint 0 0 0 [.int a0] h (pR (some (.int (Int32.ofInt 1))) h) := by
  refine en_mk m_X12_isPoint rfl hl (Nat.le_of_ble_eq_true rfl) ?_
  refine x_iload_n (M := M_X12_isPoint) dX12_isPoint_0 rfl ?_
  refine x_if_lt (M := M_X12_isPoint) (tgt := 14) dX12_isPoint_1 (by decide) (fun q => absurd ((bi_lt rfl (by decide +kernel)).mp q) (by omega : ¬ (a0.toInt < 0))) (fun _ => ?_)
  refine x_iload_n (M := M_X12_isPoint) dX12_isPoint_4 rfl ?_
  refine x_bipush (M := M_X12_isPoint) dX12_isPoint_5 ?_
  refine x_icmp_ge (M := M_X12_isPoint) (tgt := 14) dX12_isPoint_7 (by decide) (fun q => absurd ((bi_le (by decide +kernel) rfl).mp q) (by omega : ¬ (32 ≤ a0.toInt))) (fun _ => ?_)
  refine x_iconst (M := M_X12_isPoint) dX12_isPoint_10 ?_
  refine x_goto (M := M_X12_isPoint) (tgt := 15) dX12_isPoint_11 (by decide) ?_
  exact x_zret (M := M_X12_isPoint) dX12_isPoint_15 rfl (by decide) ⟨rfl, rfl⟩ (Nat.le_of_ble_eq_true rfl) (Nat.le_of_ble_eq_true rfl)
set_option maxRecDepth 10000 in
theorem q4360 {l : Launch} {E : EE} (hl : l.stackTraces = false) {h : HP} {a0 : Int32} {a1 : Int32} {a2 : Int32} {a3 : Int32} {a4 : Int32} {dg : Int32} (c0 : ¬ (a0.toInt < 0)) (c1 : a0.toInt < 32) (c2 : (lg_cmp ((((((a1.toInt64) <<< (((Int8.ofInt 32).toInt32).toInt64 &&& 63)) ||| ((a2.toInt64) &&& (4294967295 : Int64))).toUInt64 >>> (((Int8.ofInt 52).toInt32).toInt64.toUInt64 &&& Int64.toUInt64 63)).toInt64) &&& (2047 : Int64)) (2047 : Int64)) = 0) (o4347 : ob h 277 = some (.inr (15, (RB dg)))) : en_C l E M_X12_point 1 0 0 [.ref 277, .int a0, .long (((a1.toInt64) <<< (((Int8.ofInt 32).toInt32).toInt64 &&& 63)) ||| ((a2.toInt64) &&& (4294967295 : Int64))), .long (((a3.toInt64) <<< (((Int8.ofInt 32).toInt32).toInt64 &&& 63)) ||| ((a4.toInt64) &&& (4294967295 : Int64)))] h (pF none [277] h (fun h' => ob h' 277 = some (.inr (15, ((RB dg).set 0 (.int (Int32.ofInt 2))))) ∧ True)) := by
  refine en_mk m_X12_point rfl hl (Nat.le_of_ble_eq_true rfl) ?_
  refine x_aload_n (M := M_X12_point) dX12_point_0 rfl ?_
  refine x_iconst (M := M_X12_point) dX12_point_1 ?_
  refine y_put (M := M_X12_point) (ci := 15) (C := RX12) (T := TX12) (N := 135) (ty := tyX12) cl15 dX12_point_2 o4347 0 (by decide) t_2391 (Or.inl rfl) (Nat.le_of_ble_eq_true rfl) rfl (fun h4348 w4349 f4350 => ?_)
  refine x_lload_n (M := M_X12_point) dX12_point_5 rfl ?_
  refine x_bipush (M := M_X12_point) dX12_point_6 ?_
  refine x_lushr (M := M_X12_point) dX12_point_8 ?_
  refine x_ldc2 (M := M_X12_point) dX12_point_9 t_2994 ?_
  refine x_land (M := M_X12_point) dX12_point_12 ?_
  refine x_ldc2 (M := M_X12_point) dX12_point_13 t_2994 ?_
  refine x_lcmp (M := M_X12_point) dX12_point_16 ?_
  refine x_if_eq (M := M_X12_point) (tgt := 36) dX12_point_17 (by decide) (fun _ => ?_) (fun q => absurd c2 q)
  refine x_iconst (M := M_X12_point) dX12_point_36 ?_
  refine x_goto (M := M_X12_point) (tgt := 41) dX12_point_37 (by decide) ?_
  refine x_istore (M := M_X12_point) dX12_point_41 (Nat.le_of_ble_eq_true rfl) rfl ?_
  refine x_aload_n (M := M_X12_point) dX12_point_43 rfl ?_
  refine x_iload_n (M := M_X12_point) dX12_point_44 rfl ?_
  refine x_callSR (M := M_X12_point) (M' := M_X12_isPoint) rfl rfl dX12_point_45 m_X12_isPoint t_3154 t_3155 (q4351 hl c0 c1) rfl rfl (Nat.le_of_ble_eq_true rfl) (Nat.le_of_ble_eq_true rfl) (Nat.le_of_ble_eq_true rfl) (Nat.le_of_ble_eq_true rfl) ?_
  refine x_if_ne (M := M_X12_point) (tgt := 55) dX12_point_48 (by decide) (fun _ => ?_) (fun q => absurd q (by decide +kernel))
  refine x_iconst (M := M_X12_point) dX12_point_55 ?_
  refine x_iconst (M := M_X12_point) dX12_point_56 ?_
  refine y_callVR (M := M_X12_point) (M' := M_X12_fails) rfl rfl dX12_point_57 m_X12_fails t_2805 t_2807 s_157 (q241 hl w4349) rfl rfl w4349 rfl (Nat.le_of_ble_eq_true rfl) (Nat.le_of_ble_eq_true rfl) (Nat.le_of_ble_eq_true rfl) (Nat.le_of_ble_eq_true rfl) (fun h4352 f4353 w4354 => ?_)
  obtain ⟨o4355, -⟩ := w4354
  refine x_if_ne (M := M_X12_point) (tgt := 73) dX12_point_60 (by decide) (fun q => absurd q (by decide +kernel)) (fun _ => ?_)
  refine x_aload_n (M := M_X12_point) dX12_point_63 rfl ?_
  refine x_iload (M := M_X12_point) dX12_point_64 rfl ?_
  refine x_iconst (M := M_X12_point) dX12_point_66 ?_
  refine y_callVR (M := M_X12_point) (M' := M_X12_fails) rfl rfl dX12_point_67 m_X12_fails t_2805 t_2807 s_157 (q761 hl o4355) rfl rfl o4355 rfl (Nat.le_of_ble_eq_true rfl) (Nat.le_of_ble_eq_true rfl) (Nat.le_of_ble_eq_true rfl) (Nat.le_of_ble_eq_true rfl) (fun h4356 f4357 w4358 => ?_)
  obtain ⟨o4359, -⟩ := w4358
  refine x_if_eq (M := M_X12_point) (tgt := 74) dX12_point_70 (by decide) (fun q => absurd q (by decide +kernel)) (fun _ => ?_)
  exact x_vret (M := M_X12_point) dX12_point_73 rfl ⟨rfl, (fr_tr f4357 (by decide) (fr_tr f4353 (by decide) (fr_tr f4350 (by decide) fr_rf))), ⟨o4359, trivial⟩⟩ (Nat.le_of_ble_eq_true rfl) (Nat.le_of_ble_eq_true rfl)
set_option maxRecDepth 10000 in
theorem lc29_3 {l : Launch} {E : EE} (hl : l.stackTraces = false) (nm : String) {xs : Nat → Int32} (hx : E.2.2.2.2 0 = some (7, xs)) {h : HP} {a0 : Int32} {a1 : Int32} {a2 : Int32} {a3 : Int32} {a4 : Int32} {dg : Int32} (e2 : xs 2 = a0) (e3 : xs 3 = a1) (e4 : xs 4 = a2) (e5 : xs 5 = a3) (e6 : xs 6 = a4) (c0 : ¬ (a0.toInt < 0)) (c1 : a0.toInt < 32) (c2 : (lg_cmp ((((((a1.toInt64) <<< (((Int8.ofInt 32).toInt32).toInt64 &&& 63)) ||| ((a2.toInt64) &&& (4294967295 : Int64))).toUInt64 >>> (((Int8.ofInt 52).toInt32).toInt64.toUInt64 &&& Int64.toUInt64 63)).toInt64) &&& (2047 : Int64)) (2047 : Int64)) = 0) (o4343 : ob h 32 = some (.inr (14, [.ref 33, .ref 162, .ref 166, .int (0 : Int32), .int (0 : Int32), .int (0 : Int32), .ref 167, .ref 170, .ref 173, .ref 177, .ref 193, .ref 208, .ref 222, .ref 238, .ref 252, .ref 274, .ref 275, .ref 276, .int (0 : Int32)]))) (o4361 : ob h 277 = some (.inr (15, (RB dg)))) : XX l E (M_law nm) 1312 342628 8074320 (fun o _ => o = .inl (some (.int 1))) 2153 [some (.ref 0), some (.ref 32), some (.ref 277), some (.ref 359), some (.int (Int32.ofInt 1)), none, none, none] [] h 328 2463747 := by
  refine x_aload_n (M := (M_law nm)) dL_law_2153 rfl ?_
  refine x_aload_n (M := (M_law nm)) dL_law_2154 rfl ?_
  refine x_iload (M := (M_law nm)) dL_law_2155 rfl ?_
  refine x_iconst (M := (M_law nm)) dL_law_2157 ?_
  refine x_iadd (M := (M_law nm)) dL_law_2158 ?_
  refine x_sald (M := (M_law nm)) dL_law_2159 (by decide) hx (vp_inD (by decide +kernel)) ?_
  refine x_top (M := (M_law nm)) (y := a0) ((congrArg xs (by decide +kernel : ((Int32.ofInt 1) + (Int32.ofInt 1)).toNatClampNeg = 2)).trans e2) ?_
  refine x_aload_n (M := (M_law nm)) dL_law_2160 rfl ?_
  refine x_iload (M := (M_law nm)) dL_law_2161 rfl ?_
  refine x_iconst (M := (M_law nm)) dL_law_2163 ?_
  refine x_iadd (M := (M_law nm)) dL_law_2164 ?_
  refine x_sald (M := (M_law nm)) dL_law_2165 (by decide) hx (vp_inD (by decide +kernel)) ?_
  refine x_top (M := (M_law nm)) (y := a1) ((congrArg xs (by decide +kernel : ((Int32.ofInt 1) + (Int32.ofInt 2)).toNatClampNeg = 3)).trans e3) ?_
  refine x_i2l (M := (M_law nm)) dL_law_2166 ?_
  refine x_bipush (M := (M_law nm)) dL_law_2167 ?_
  refine x_lshl (M := (M_law nm)) dL_law_2169 ?_
  refine x_aload_n (M := (M_law nm)) dL_law_2170 rfl ?_
  refine x_iload (M := (M_law nm)) dL_law_2171 rfl ?_
  refine x_iconst (M := (M_law nm)) dL_law_2173 ?_
  refine x_iadd (M := (M_law nm)) dL_law_2174 ?_
  refine x_sald (M := (M_law nm)) dL_law_2175 (by decide) hx (vp_inD (by decide +kernel)) ?_
  refine x_top (M := (M_law nm)) (y := a2) ((congrArg xs (by decide +kernel : ((Int32.ofInt 1) + (Int32.ofInt 3)).toNatClampNeg = 4)).trans e4) ?_
  refine x_i2l (M := (M_law nm)) dL_law_2176 ?_
  refine x_ldc2 (M := (M_law nm)) dL_law_2177 t_3705 ?_
  refine x_land (M := (M_law nm)) dL_law_2180 ?_
  refine x_lor (M := (M_law nm)) dL_law_2181 ?_
  refine x_aload_n (M := (M_law nm)) dL_law_2182 rfl ?_
  refine x_iload (M := (M_law nm)) dL_law_2183 rfl ?_
  refine x_iconst (M := (M_law nm)) dL_law_2185 ?_
  refine x_iadd (M := (M_law nm)) dL_law_2186 ?_
  refine x_sald (M := (M_law nm)) dL_law_2187 (by decide) hx (vp_inD (by decide +kernel)) ?_
  refine x_top (M := (M_law nm)) (y := a3) ((congrArg xs (by decide +kernel : ((Int32.ofInt 1) + (Int32.ofInt 4)).toNatClampNeg = 5)).trans e5) ?_
  refine x_i2l (M := (M_law nm)) dL_law_2188 ?_
  refine x_bipush (M := (M_law nm)) dL_law_2189 ?_
  refine x_lshl (M := (M_law nm)) dL_law_2191 ?_
  refine x_aload_n (M := (M_law nm)) dL_law_2192 rfl ?_
  refine x_iload (M := (M_law nm)) dL_law_2193 rfl ?_
  refine x_iconst (M := (M_law nm)) dL_law_2195 ?_
  refine x_iadd (M := (M_law nm)) dL_law_2196 ?_
  refine x_sald (M := (M_law nm)) dL_law_2197 (by decide) hx (vp_inD (by decide +kernel)) ?_
  refine x_top (M := (M_law nm)) (y := a4) ((congrArg xs (by decide +kernel : ((Int32.ofInt 1) + (Int32.ofInt 5)).toNatClampNeg = 6)).trans e6) ?_
  refine x_i2l (M := (M_law nm)) dL_law_2198 ?_
  refine x_ldc2 (M := (M_law nm)) dL_law_2199 t_3705 ?_
  refine x_land (M := (M_law nm)) dL_law_2202 ?_
  refine x_lor (M := (M_law nm)) dL_law_2203 ?_
  refine y_callSW (M := (M_law nm)) (M' := M_L_point) rfl rfl dL_law_2204 m_L_point t_2302 t_2303 (q4342 hl c0 c1 c2 o4343) rfl rfl (Nat.le_of_ble_eq_true rfl) (Nat.le_of_ble_eq_true rfl) (Nat.le_of_ble_eq_true rfl) (Nat.le_of_ble_eq_true rfl) (fun h4344 f4345 w4346 => ?_)
  refine x_istore (M := (M_law nm)) dL_law_2207 (Nat.le_of_ble_eq_true rfl) rfl ?_
  refine x_aload_n (M := (M_law nm)) dL_law_2209 rfl ?_
  refine x_aload_n (M := (M_law nm)) dL_law_2210 rfl ?_
  refine x_iload (M := (M_law nm)) dL_law_2211 rfl ?_
  refine x_iconst (M := (M_law nm)) dL_law_2213 ?_
  refine x_iadd (M := (M_law nm)) dL_law_2214 ?_
  refine x_sald (M := (M_law nm)) dL_law_2215 (by decide) hx (vp_inD (by decide +kernel)) ?_
  refine x_top (M := (M_law nm)) (y := a0) ((congrArg xs (by decide +kernel : ((Int32.ofInt 1) + (Int32.ofInt 1)).toNatClampNeg = 2)).trans e2) ?_
  refine x_aload_n (M := (M_law nm)) dL_law_2216 rfl ?_
  refine x_iload (M := (M_law nm)) dL_law_2217 rfl ?_
  refine x_iconst (M := (M_law nm)) dL_law_2219 ?_
  refine x_iadd (M := (M_law nm)) dL_law_2220 ?_
  refine x_sald (M := (M_law nm)) dL_law_2221 (by decide) hx (vp_inD (by decide +kernel)) ?_
  refine x_top (M := (M_law nm)) (y := a1) ((congrArg xs (by decide +kernel : ((Int32.ofInt 1) + (Int32.ofInt 2)).toNatClampNeg = 3)).trans e3) ?_
  refine x_i2l (M := (M_law nm)) dL_law_2222 ?_
  refine x_bipush (M := (M_law nm)) dL_law_2223 ?_
  refine x_lshl (M := (M_law nm)) dL_law_2225 ?_
  refine x_aload_n (M := (M_law nm)) dL_law_2226 rfl ?_
  refine x_iload (M := (M_law nm)) dL_law_2227 rfl ?_
  refine x_iconst (M := (M_law nm)) dL_law_2229 ?_
  refine x_iadd (M := (M_law nm)) dL_law_2230 ?_
  refine x_sald (M := (M_law nm)) dL_law_2231 (by decide) hx (vp_inD (by decide +kernel)) ?_
  refine x_top (M := (M_law nm)) (y := a2) ((congrArg xs (by decide +kernel : ((Int32.ofInt 1) + (Int32.ofInt 3)).toNatClampNeg = 4)).trans e4) ?_
  refine x_i2l (M := (M_law nm)) dL_law_2232 ?_
  refine x_ldc2 (M := (M_law nm)) dL_law_2233 t_3705 ?_
  refine x_land (M := (M_law nm)) dL_law_2236 ?_
  refine x_lor (M := (M_law nm)) dL_law_2237 ?_
  refine x_aload_n (M := (M_law nm)) dL_law_2238 rfl ?_
  refine x_iload (M := (M_law nm)) dL_law_2239 rfl ?_
  refine x_iconst (M := (M_law nm)) dL_law_2241 ?_
  refine x_iadd (M := (M_law nm)) dL_law_2242 ?_
  refine x_sald (M := (M_law nm)) dL_law_2243 (by decide) hx (vp_inD (by decide +kernel)) ?_
  refine x_top (M := (M_law nm)) (y := a3) ((congrArg xs (by decide +kernel : ((Int32.ofInt 1) + (Int32.ofInt 4)).toNatClampNeg = 5)).trans e5) ?_
  refine x_i2l (M := (M_law nm)) dL_law_2244 ?_
  refine x_bipush (M := (M_law nm)) dL_law_2245 ?_
  refine x_lshl (M := (M_law nm)) dL_law_2247 ?_
  refine x_aload_n (M := (M_law nm)) dL_law_2248 rfl ?_
  refine x_iload (M := (M_law nm)) dL_law_2249 rfl ?_
  refine x_iconst (M := (M_law nm)) dL_law_2251 ?_
  refine x_iadd (M := (M_law nm)) dL_law_2252 ?_
  refine x_sald (M := (M_law nm)) dL_law_2253 (by decide) hx (vp_inD (by decide +kernel)) ?_
  refine x_top (M := (M_law nm)) (y := a4) ((congrArg xs (by decide +kernel : ((Int32.ofInt 1) + (Int32.ofInt 5)).toNatClampNeg = 6)).trans e6) ?_
  refine x_i2l (M := (M_law nm)) dL_law_2254 ?_
  refine x_ldc2 (M := (M_law nm)) dL_law_2255 t_3705 ?_
  refine x_land (M := (M_law nm)) dL_law_2258 ?_
  refine x_lor (M := (M_law nm)) dL_law_2259 ?_
  have o4362 := (f4345 277 _ (by decide) o4361)
  refine y_callVR (M := (M_law nm)) (M' := M_X12_point) rfl rfl dL_law_2260 m_X12_point t_3150 t_3151 t_3152 (q4360 hl c0 c1 c2 o4362) rfl rfl o4362 rfl (Nat.le_of_ble_eq_true rfl) (Nat.le_of_ble_eq_true rfl) (Nat.le_of_ble_eq_true rfl) (Nat.le_of_ble_eq_true rfl) (fun h4363 f4364 w4365 => ?_)
  obtain ⟨o4366, -⟩ := w4365
  refine x_aload_n (M := (M_law nm)) dL_law_2263 rfl ?_
  refine x_callVR (M := (M_law nm)) (M' := M_X12_thrown) rfl rfl dL_law_2264 m_X12_thrown t_2797 t_2798 t_2799 (q774 hl o4366) rfl rfl o4366 rfl (Nat.le_of_ble_eq_true rfl) (Nat.le_of_ble_eq_true rfl) (Nat.le_of_ble_eq_true rfl) (Nat.le_of_ble_eq_true rfl) ?_
  refine x_iload (M := (M_law nm)) dL_law_2267 rfl ?_
  refine x_icmp_eq (M := (M_law nm)) (tgt := 2274) dL_law_2269 (by decide) (fun _ => ?_) (fun q => absurd q (by decide +kernel))
  refine x_goto (M := (M_law nm)) (tgt := 2449) dL_law_2274 (by decide) ?_
  refine x_iinc (M := (M_law nm)) dL_law_2449 rfl (Nat.le_of_ble_eq_true rfl) rfl ?_
  refine x_lvs (M := (M_law nm)) (lv' := [some (.ref 0), some (.ref 32), some (.ref 277), some (.ref 359), some (.int (Int32.ofInt 7)), some (.int (Int32.ofInt 2)), none, none]) (by rw [(by decide +kernel : (Int32.ofInt 1) + Int32.ofInt 6 = (Int32.ofInt 7))] <;> rfl) ?_
  refine x_goto (M := (M_law nm)) (tgt := 33) dL_law_2452 (by decide) ?_
  refine x_iload (M := (M_law nm)) dL_law_33 rfl ?_
  refine x_aload_n (M := (M_law nm)) dL_law_35 rfl ?_
  refine x_slen (M := (M_law nm)) dL_law_36 (by decide) hx ?_
  refine x_bipush (M := (M_law nm)) dL_law_37 ?_
  refine x_isub (M := (M_law nm)) dL_law_39 ?_
  refine x_icmp_gt (M := (M_law nm)) (tgt := 2455) dL_law_40 (by decide) (fun _ => ?_) (fun q => absurd q (by decide +kernel))
  refine x_iconst (M := (M_law nm)) dL_law_2455 ?_
  exact x_zret (M := (M_law nm)) dL_law_2456 rfl (by decide) rfl (Nat.le_of_ble_eq_true rfl) (Nat.le_of_ble_eq_true rfl)
set_option maxRecDepth 10000 in
theorem q4367 {l : Launch} {E : EE} (hl : l.stackTraces = false) {h : HP} {a1 : Int32} {a2 : Int32} (c0 : ¬ ((lg_cmp ((((((a1.toInt64) <<< (((Int8.ofInt 32).toInt32).toInt64 &&& 63)) ||| ((a2.toInt64) &&& (4294967295 : Int64))).toUInt64 >>> (((Int8.ofInt 52).toInt32).toInt64.toUInt64 &&& Int64.toUInt64 63)).toInt64) &&& (2047 : Int64)) (2047 : Int64)) = 0)) : en_C l E M_X11_isNoNumber 0 0 0 [.long (((a1.toInt64) <<< (((Int8.ofInt 32).toInt32).toInt64 &&& 63)) ||| ((a2.toInt64) &&& (4294967295 : Int64)))] h (pR (some (.int (Int32.ofInt 0))) h) := by
  refine en_mk m_X11_isNoNumber rfl hl (Nat.le_of_ble_eq_true rfl) ?_
  refine x_lload_n (M := M_X11_isNoNumber) dX11_isNoNumber_0 rfl ?_
  refine x_bipush (M := M_X11_isNoNumber) dX11_isNoNumber_1 ?_
  refine x_lushr (M := M_X11_isNoNumber) dX11_isNoNumber_3 ?_
  refine x_ldc2 (M := M_X11_isNoNumber) dX11_isNoNumber_4 t_2315 ?_
  refine x_land (M := M_X11_isNoNumber) dX11_isNoNumber_7 ?_
  refine x_ldc2 (M := M_X11_isNoNumber) dX11_isNoNumber_8 t_2315 ?_
  refine x_lcmp (M := M_X11_isNoNumber) dX11_isNoNumber_11 ?_
  refine x_if_ne (M := M_X11_isNoNumber) (tgt := 19) dX11_isNoNumber_12 (by decide) (fun _ => ?_) (fun q => absurd q c0)
  refine x_iconst (M := M_X11_isNoNumber) dX11_isNoNumber_19 ?_
  exact x_zret (M := M_X11_isNoNumber) dX11_isNoNumber_20 rfl (by decide) ⟨rfl, rfl⟩ (Nat.le_of_ble_eq_true rfl) (Nat.le_of_ble_eq_true rfl)
set_option maxRecDepth 10000 in
theorem q4368 {l : Launch} {E : EE} (hl : l.stackTraces = false) {h : HP} {a3 : Int32} {a4 : Int32} (c0 : (lg_cmp ((((((a3.toInt64) <<< (((Int8.ofInt 32).toInt32).toInt64 &&& 63)) ||| ((a4.toInt64) &&& (4294967295 : Int64))).toUInt64 >>> (((Int8.ofInt 52).toInt32).toInt64.toUInt64 &&& Int64.toUInt64 63)).toInt64) &&& (2047 : Int64)) (2047 : Int64)) = 0) : en_C l E M_X11_isNoNumber 0 0 0 [.long (((a3.toInt64) <<< (((Int8.ofInt 32).toInt32).toInt64 &&& 63)) ||| ((a4.toInt64) &&& (4294967295 : Int64)))] h (pR (some (.int (Int32.ofInt 1))) h) := by
  refine en_mk m_X11_isNoNumber rfl hl (Nat.le_of_ble_eq_true rfl) ?_
  refine x_lload_n (M := M_X11_isNoNumber) dX11_isNoNumber_0 rfl ?_
  refine x_bipush (M := M_X11_isNoNumber) dX11_isNoNumber_1 ?_
  refine x_lushr (M := M_X11_isNoNumber) dX11_isNoNumber_3 ?_
  refine x_ldc2 (M := M_X11_isNoNumber) dX11_isNoNumber_4 t_2315 ?_
  refine x_land (M := M_X11_isNoNumber) dX11_isNoNumber_7 ?_
  refine x_ldc2 (M := M_X11_isNoNumber) dX11_isNoNumber_8 t_2315 ?_
  refine x_lcmp (M := M_X11_isNoNumber) dX11_isNoNumber_11 ?_
  refine x_if_ne (M := M_X11_isNoNumber) (tgt := 19) dX11_isNoNumber_12 (by decide) (fun q => absurd c0 q) (fun _ => ?_)
  refine x_iconst (M := M_X11_isNoNumber) dX11_isNoNumber_15 ?_
  refine x_goto (M := M_X11_isNoNumber) (tgt := 20) dX11_isNoNumber_16 (by decide) ?_
  exact x_zret (M := M_X11_isNoNumber) dX11_isNoNumber_20 rfl (by decide) ⟨rfl, rfl⟩ (Nat.le_of_ble_eq_true rfl) (Nat.le_of_ble_eq_true rfl)
set_option maxRecDepth 10000 in
theorem q4370 {l : Launch} {E : EE} (hl : l.stackTraces = false) {h : HP} {a0 : Int32} {a1 : Int32} {a2 : Int32} {a3 : Int32} {a4 : Int32} (c0 : ¬ (a0.toInt < 0)) (c1 : a0.toInt < 32) (c2 : ¬ ((lg_cmp ((((((a1.toInt64) <<< (((Int8.ofInt 32).toInt32).toInt64 &&& 63)) ||| ((a2.toInt64) &&& (4294967295 : Int64))).toUInt64 >>> (((Int8.ofInt 52).toInt32).toInt64.toUInt64 &&& Int64.toUInt64 63)).toInt64) &&& (2047 : Int64)) (2047 : Int64)) = 0)) (c3 : (lg_cmp ((((((a3.toInt64) <<< (((Int8.ofInt 32).toInt32).toInt64 &&& 63)) ||| ((a4.toInt64) &&& (4294967295 : Int64))).toUInt64 >>> (((Int8.ofInt 52).toInt32).toInt64.toUInt64 &&& Int64.toUInt64 63)).toInt64) &&& (2047 : Int64)) (2047 : Int64)) = 0) : en_C l E M_X11_point 6 1 6 [.ref 32, .int a0, .long (((a1.toInt64) <<< (((Int8.ofInt 32).toInt32).toInt64 &&& 63)) ||| ((a2.toInt64) &&& (4294967295 : Int64))), .long (((a3.toInt64) <<< (((Int8.ofInt 32).toInt32).toInt64 &&& 63)) ||| ((a4.toInt64) &&& (4294967295 : Int64)))] h (pT "java/lang/IllegalArgumentException" [] h (fun _ => True)) := by
  refine en_mk m_X11_point rfl hl (Nat.le_of_ble_eq_true rfl) ?_
  refine x_iload_n (M := M_X11_point) dX11_point_0 rfl ?_
  refine x_callSR (M := M_X11_point) (M' := M_X11_isNoSignPoint) rfl rfl dX11_point_1 m_X11_isNoSignPoint t_2309 t_2310 (q4334 hl c0 c1) rfl rfl (Nat.le_of_ble_eq_true rfl) (Nat.le_of_ble_eq_true rfl) (Nat.le_of_ble_eq_true rfl) (Nat.le_of_ble_eq_true rfl) ?_
  refine x_if_eq (M := M_X11_point) (tgt := 15) dX11_point_4 (by decide) (fun _ => ?_) (fun q => absurd q (by decide +kernel))
  refine x_lload_n (M := M_X11_point) dX11_point_15 rfl ?_
  refine x_callSR (M := M_X11_point) (M' := M_X11_isNoNumber) rfl rfl dX11_point_16 m_X11_isNoNumber t_2312 t_2313 (q4367 hl c2) rfl rfl (Nat.le_of_ble_eq_true rfl) (Nat.le_of_ble_eq_true rfl) (Nat.le_of_ble_eq_true rfl) (Nat.le_of_ble_eq_true rfl) ?_
  refine x_if_ne (M := M_X11_point) (tgt := 30) dX11_point_19 (by decide) (fun q => absurd q (by decide +kernel)) (fun _ => ?_)
  refine x_lload (M := M_X11_point) dX11_point_22 rfl ?_
  refine x_callSR (M := M_X11_point) (M' := M_X11_isNoNumber) rfl rfl dX11_point_24 m_X11_isNoNumber t_2312 t_2313 (q4368 hl c3) rfl rfl (Nat.le_of_ble_eq_true rfl) (Nat.le_of_ble_eq_true rfl) (Nat.le_of_ble_eq_true rfl) (Nat.le_of_ble_eq_true rfl) ?_
  refine x_if_eq (M := M_X11_point) (tgt := 38) dX11_point_27 (by decide) (fun q => absurd q (by decide +kernel)) (fun _ => ?_)
  exact x_throw (M := M_X11_point) (names := en_nm) rfl dX11_point_30 dX11_point_33 dX11_point_34 dX11_point_37 (by decide +kernel) en_nm_ok (Or.inl t_721) (Or.inl t_19) (at_X11_IllegalArgumentException_118) (Nat.le_of_ble_eq_true rfl) (Nat.le_of_ble_eq_true rfl) (Nat.le_of_ble_eq_true rfl) (Nat.le_of_ble_eq_true rfl) (fun n9 => ⟨rfl, (fr_tr (fr_app (List.replicate n9 none)) (fun _ h => nomatch h) fr_rf), trivial⟩)
set_option maxRecDepth 10000 in
theorem q4375 {l : Launch} {E : EE} (hl : l.stackTraces = false) {h : HP} {a0 : Int32} {a1 : Int32} {a2 : Int32} {a3 : Int32} {a4 : Int32} (c0 : ¬ (a0.toInt < 0)) (c1 : a0.toInt < 32) (c2 : ¬ ((lg_cmp ((((((a1.toInt64) <<< (((Int8.ofInt 32).toInt32).toInt64 &&& 63)) ||| ((a2.toInt64) &&& (4294967295 : Int64))).toUInt64 >>> (((Int8.ofInt 52).toInt32).toInt64.toUInt64 &&& Int64.toUInt64 63)).toInt64) &&& (2047 : Int64)) (2047 : Int64)) = 0)) (c3 : (lg_cmp ((((((a3.toInt64) <<< (((Int8.ofInt 32).toInt32).toInt64 &&& 63)) ||| ((a4.toInt64) &&& (4294967295 : Int64))).toUInt64 >>> (((Int8.ofInt 52).toInt32).toInt64.toUInt64 &&& Int64.toUInt64 63)).toInt64) &&& (2047 : Int64)) (2047 : Int64)) = 0) (o4371 : ob h 32 = some (.inr (14, [.ref 33, .ref 162, .ref 166, .int (0 : Int32), .int (0 : Int32), .int (0 : Int32), .ref 167, .ref 170, .ref 173, .ref 177, .ref 193, .ref 208, .ref 222, .ref 238, .ref 252, .ref 274, .ref 275, .ref 276, .int (0 : Int32)]))) : en_C l E M_L_point 7 1 6 [.ref 32, .int a0, .long (((a1.toInt64) <<< (((Int8.ofInt 32).toInt32).toInt64 &&& 63)) ||| ((a2.toInt64) &&& (4294967295 : Int64))), .long (((a3.toInt64) <<< (((Int8.ofInt 32).toInt32).toInt64 &&& 63)) ||| ((a4.toInt64) &&& (4294967295 : Int64)))] h (pF (some (.int (Int32.ofInt 2))) [] h (fun _ => True)) := by
  refine en_mkW m_L_point rfl hl (Nat.le_of_ble_eq_true rfl) ?_
  refine x_aload_n (M := M_L_point) dL_point_0 rfl ?_
  refine x_iload_n (M := M_L_point) dL_point_1 rfl ?_
  refine x_lload_n (M := M_L_point) dL_point_2 rfl ?_
  refine x_lload (M := M_L_point) dL_point_3 rfl ?_
  refine y_callVHX (M := M_L_point) (M' := M_X11_point) (i9 := 6) (nx := 17) rfl dL_point_5 m_X11_point t_2305 t_2306 t_2307 o4371 rfl (q4370 hl c0 c1 c2 c3) rfl rfl (Nat.le_of_ble_eq_true rfl) (Nat.le_of_ble_eq_true rfl) (Nat.le_of_ble_eq_true rfl) (Nat.le_of_ble_eq_true rfl) (en_hdm (k0 := 6) [(0, 8, 11, 24)] [] rfl (List.forall_mem_cons.mpr ⟨⟨by decide, "java/lang/IndexOutOfBoundsException", t_739, by decide +kernel, by decide +kernel, by decide +kernel⟩, (fun _ h => nomatch h)⟩) (by decide +kernel) (by decide) t_716 n_723 dL_point_15) (by decide) rfl (fun h4372 f4373 w4374 => ?_)
  refine x_iconst (M := M_L_point) dL_point_17 ?_
  exact x_iret (M := M_L_point) dL_point_18 rfl ⟨rfl, (fr_tr f4373 (fun _ h => nomatch h) fr_rf), trivial⟩ (Nat.le_of_ble_eq_true rfl) (Nat.le_of_ble_eq_true rfl)
set_option maxRecDepth 10000 in
theorem q4392 {l : Launch} {E : EE} (hl : l.stackTraces = false) {h : HP} {a0 : Int32} {a1 : Int32} {a2 : Int32} {a3 : Int32} {a4 : Int32} {dg : Int32} (c0 : ¬ (a0.toInt < 0)) (c1 : a0.toInt < 32) (c2 : ¬ ((lg_cmp ((((((a1.toInt64) <<< (((Int8.ofInt 32).toInt32).toInt64 &&& 63)) ||| ((a2.toInt64) &&& (4294967295 : Int64))).toUInt64 >>> (((Int8.ofInt 52).toInt32).toInt64.toUInt64 &&& Int64.toUInt64 63)).toInt64) &&& (2047 : Int64)) (2047 : Int64)) = 0)) (c3 : (lg_cmp ((((((a3.toInt64) <<< (((Int8.ofInt 32).toInt32).toInt64 &&& 63)) ||| ((a4.toInt64) &&& (4294967295 : Int64))).toUInt64 >>> (((Int8.ofInt 52).toInt32).toInt64.toUInt64 &&& Int64.toUInt64 63)).toInt64) &&& (2047 : Int64)) (2047 : Int64)) = 0) (o4380 : ob h 277 = some (.inr (15, (RB dg)))) : en_C l E M_X12_point 1 0 0 [.ref 277, .int a0, .long (((a1.toInt64) <<< (((Int8.ofInt 32).toInt32).toInt64 &&& 63)) ||| ((a2.toInt64) &&& (4294967295 : Int64))), .long (((a3.toInt64) <<< (((Int8.ofInt 32).toInt32).toInt64 &&& 63)) ||| ((a4.toInt64) &&& (4294967295 : Int64)))] h (pF none [277] h (fun h' => ob h' 277 = some (.inr (15, ((RB dg).set 0 (.int (Int32.ofInt 2))))) ∧ True)) := by
  refine en_mk m_X12_point rfl hl (Nat.le_of_ble_eq_true rfl) ?_
  refine x_aload_n (M := M_X12_point) dX12_point_0 rfl ?_
  refine x_iconst (M := M_X12_point) dX12_point_1 ?_
  refine y_put (M := M_X12_point) (ci := 15) (C := RX12) (T := TX12) (N := 135) (ty := tyX12) cl15 dX12_point_2 o4380 0 (by decide) t_2391 (Or.inl rfl) (Nat.le_of_ble_eq_true rfl) rfl (fun h4381 w4382 f4383 => ?_)
  refine x_lload_n (M := M_X12_point) dX12_point_5 rfl ?_
  refine x_bipush (M := M_X12_point) dX12_point_6 ?_
  refine x_lushr (M := M_X12_point) dX12_point_8 ?_
  refine x_ldc2 (M := M_X12_point) dX12_point_9 t_2994 ?_
  refine x_land (M := M_X12_point) dX12_point_12 ?_
  refine x_ldc2 (M := M_X12_point) dX12_point_13 t_2994 ?_
  refine x_lcmp (M := M_X12_point) dX12_point_16 ?_
  refine x_if_eq (M := M_X12_point) (tgt := 36) dX12_point_17 (by decide) (fun q => absurd q c2) (fun _ => ?_)
  refine x_lload (M := M_X12_point) dX12_point_20 rfl ?_
  refine x_bipush (M := M_X12_point) dX12_point_22 ?_
  refine x_lushr (M := M_X12_point) dX12_point_24 ?_
  refine x_ldc2 (M := M_X12_point) dX12_point_25 t_2994 ?_
  refine x_land (M := M_X12_point) dX12_point_28 ?_
  refine x_ldc2 (M := M_X12_point) dX12_point_29 t_2994 ?_
  refine x_lcmp (M := M_X12_point) dX12_point_32 ?_
  refine x_if_ne (M := M_X12_point) (tgt := 40) dX12_point_33 (by decide) (fun q => absurd c3 q) (fun _ => ?_)
  refine x_iconst (M := M_X12_point) dX12_point_36 ?_
  refine x_goto (M := M_X12_point) (tgt := 41) dX12_point_37 (by decide) ?_
  refine x_istore (M := M_X12_point) dX12_point_41 (Nat.le_of_ble_eq_true rfl) rfl ?_
  refine x_aload_n (M := M_X12_point) dX12_point_43 rfl ?_
  refine x_iload_n (M := M_X12_point) dX12_point_44 rfl ?_
  refine x_callSR (M := M_X12_point) (M' := M_X12_isPoint) rfl rfl dX12_point_45 m_X12_isPoint t_3154 t_3155 (q4351 hl c0 c1) rfl rfl (Nat.le_of_ble_eq_true rfl) (Nat.le_of_ble_eq_true rfl) (Nat.le_of_ble_eq_true rfl) (Nat.le_of_ble_eq_true rfl) ?_
  refine x_if_ne (M := M_X12_point) (tgt := 55) dX12_point_48 (by decide) (fun _ => ?_) (fun q => absurd q (by decide +kernel))
  refine x_iconst (M := M_X12_point) dX12_point_55 ?_
  refine x_iconst (M := M_X12_point) dX12_point_56 ?_
  refine y_callVR (M := M_X12_point) (M' := M_X12_fails) rfl rfl dX12_point_57 m_X12_fails t_2805 t_2807 s_157 (q241 hl w4382) rfl rfl w4382 rfl (Nat.le_of_ble_eq_true rfl) (Nat.le_of_ble_eq_true rfl) (Nat.le_of_ble_eq_true rfl) (Nat.le_of_ble_eq_true rfl) (fun h4384 f4385 w4386 => ?_)
  obtain ⟨o4387, -⟩ := w4386
  refine x_if_ne (M := M_X12_point) (tgt := 73) dX12_point_60 (by decide) (fun q => absurd q (by decide +kernel)) (fun _ => ?_)
  refine x_aload_n (M := M_X12_point) dX12_point_63 rfl ?_
  refine x_iload (M := M_X12_point) dX12_point_64 rfl ?_
  refine x_iconst (M := M_X12_point) dX12_point_66 ?_
  refine y_callVR (M := M_X12_point) (M' := M_X12_fails) rfl rfl dX12_point_67 m_X12_fails t_2805 t_2807 s_157 (q761 hl o4387) rfl rfl o4387 rfl (Nat.le_of_ble_eq_true rfl) (Nat.le_of_ble_eq_true rfl) (Nat.le_of_ble_eq_true rfl) (Nat.le_of_ble_eq_true rfl) (fun h4388 f4389 w4390 => ?_)
  obtain ⟨o4391, -⟩ := w4390
  refine x_if_eq (M := M_X12_point) (tgt := 74) dX12_point_70 (by decide) (fun q => absurd q (by decide +kernel)) (fun _ => ?_)
  exact x_vret (M := M_X12_point) dX12_point_73 rfl ⟨rfl, (fr_tr f4389 (by decide) (fr_tr f4385 (by decide) (fr_tr f4383 (by decide) fr_rf))), ⟨o4391, trivial⟩⟩ (Nat.le_of_ble_eq_true rfl) (Nat.le_of_ble_eq_true rfl)
set_option maxRecDepth 10000 in
theorem lc29_4 {l : Launch} {E : EE} (hl : l.stackTraces = false) (nm : String) {xs : Nat → Int32} (hx : E.2.2.2.2 0 = some (7, xs)) {h : HP} {a0 : Int32} {a1 : Int32} {a2 : Int32} {a3 : Int32} {a4 : Int32} {dg : Int32} (e2 : xs 2 = a0) (e3 : xs 3 = a1) (e4 : xs 4 = a2) (e5 : xs 5 = a3) (e6 : xs 6 = a4) (c0 : ¬ (a0.toInt < 0)) (c1 : a0.toInt < 32) (c2 : ¬ ((lg_cmp ((((((a1.toInt64) <<< (((Int8.ofInt 32).toInt32).toInt64 &&& 63)) ||| ((a2.toInt64) &&& (4294967295 : Int64))).toUInt64 >>> (((Int8.ofInt 52).toInt32).toInt64.toUInt64 &&& Int64.toUInt64 63)).toInt64) &&& (2047 : Int64)) (2047 : Int64)) = 0)) (c3 : (lg_cmp ((((((a3.toInt64) <<< (((Int8.ofInt 32).toInt32).toInt64 &&& 63)) ||| ((a4.toInt64) &&& (4294967295 : Int64))).toUInt64 >>> (((Int8.ofInt 52).toInt32).toInt64.toUInt64 &&& Int64.toUInt64 63)).toInt64) &&& (2047 : Int64)) (2047 : Int64)) = 0) (o4376 : ob h 32 = some (.inr (14, [.ref 33, .ref 162, .ref 166, .int (0 : Int32), .int (0 : Int32), .int (0 : Int32), .ref 167, .ref 170, .ref 173, .ref 177, .ref 193, .ref 208, .ref 222, .ref 238, .ref 252, .ref 274, .ref 275, .ref 276, .int (0 : Int32)]))) (o4393 : ob h 277 = some (.inr (15, (RB dg)))) : XX l E (M_law nm) 1312 342628 8074320 (fun o _ => o = .inl (some (.int 1))) 2153 [some (.ref 0), some (.ref 32), some (.ref 277), some (.ref 359), some (.int (Int32.ofInt 1)), none, none, none] [] h 328 2463747 := by
  refine x_aload_n (M := (M_law nm)) dL_law_2153 rfl ?_
  refine x_aload_n (M := (M_law nm)) dL_law_2154 rfl ?_
  refine x_iload (M := (M_law nm)) dL_law_2155 rfl ?_
  refine x_iconst (M := (M_law nm)) dL_law_2157 ?_
  refine x_iadd (M := (M_law nm)) dL_law_2158 ?_
  refine x_sald (M := (M_law nm)) dL_law_2159 (by decide) hx (vp_inD (by decide +kernel)) ?_
  refine x_top (M := (M_law nm)) (y := a0) ((congrArg xs (by decide +kernel : ((Int32.ofInt 1) + (Int32.ofInt 1)).toNatClampNeg = 2)).trans e2) ?_
  refine x_aload_n (M := (M_law nm)) dL_law_2160 rfl ?_
  refine x_iload (M := (M_law nm)) dL_law_2161 rfl ?_
  refine x_iconst (M := (M_law nm)) dL_law_2163 ?_
  refine x_iadd (M := (M_law nm)) dL_law_2164 ?_
  refine x_sald (M := (M_law nm)) dL_law_2165 (by decide) hx (vp_inD (by decide +kernel)) ?_
  refine x_top (M := (M_law nm)) (y := a1) ((congrArg xs (by decide +kernel : ((Int32.ofInt 1) + (Int32.ofInt 2)).toNatClampNeg = 3)).trans e3) ?_
  refine x_i2l (M := (M_law nm)) dL_law_2166 ?_
  refine x_bipush (M := (M_law nm)) dL_law_2167 ?_
  refine x_lshl (M := (M_law nm)) dL_law_2169 ?_
  refine x_aload_n (M := (M_law nm)) dL_law_2170 rfl ?_
  refine x_iload (M := (M_law nm)) dL_law_2171 rfl ?_
  refine x_iconst (M := (M_law nm)) dL_law_2173 ?_
  refine x_iadd (M := (M_law nm)) dL_law_2174 ?_
  refine x_sald (M := (M_law nm)) dL_law_2175 (by decide) hx (vp_inD (by decide +kernel)) ?_
  refine x_top (M := (M_law nm)) (y := a2) ((congrArg xs (by decide +kernel : ((Int32.ofInt 1) + (Int32.ofInt 3)).toNatClampNeg = 4)).trans e4) ?_
  refine x_i2l (M := (M_law nm)) dL_law_2176 ?_
  refine x_ldc2 (M := (M_law nm)) dL_law_2177 t_3705 ?_
  refine x_land (M := (M_law nm)) dL_law_2180 ?_
  refine x_lor (M := (M_law nm)) dL_law_2181 ?_
  refine x_aload_n (M := (M_law nm)) dL_law_2182 rfl ?_
  refine x_iload (M := (M_law nm)) dL_law_2183 rfl ?_
  refine x_iconst (M := (M_law nm)) dL_law_2185 ?_
  refine x_iadd (M := (M_law nm)) dL_law_2186 ?_
  refine x_sald (M := (M_law nm)) dL_law_2187 (by decide) hx (vp_inD (by decide +kernel)) ?_
  refine x_top (M := (M_law nm)) (y := a3) ((congrArg xs (by decide +kernel : ((Int32.ofInt 1) + (Int32.ofInt 4)).toNatClampNeg = 5)).trans e5) ?_
  refine x_i2l (M := (M_law nm)) dL_law_2188 ?_
  refine x_bipush (M := (M_law nm)) dL_law_2189 ?_
  refine x_lshl (M := (M_law nm)) dL_law_2191 ?_
  refine x_aload_n (M := (M_law nm)) dL_law_2192 rfl ?_
  refine x_iload (M := (M_law nm)) dL_law_2193 rfl ?_
  refine x_iconst (M := (M_law nm)) dL_law_2195 ?_
  refine x_iadd (M := (M_law nm)) dL_law_2196 ?_
  refine x_sald (M := (M_law nm)) dL_law_2197 (by decide) hx (vp_inD (by decide +kernel)) ?_
  refine x_top (M := (M_law nm)) (y := a4) ((congrArg xs (by decide +kernel : ((Int32.ofInt 1) + (Int32.ofInt 5)).toNatClampNeg = 6)).trans e6) ?_
  refine x_i2l (M := (M_law nm)) dL_law_2198 ?_
  refine x_ldc2 (M := (M_law nm)) dL_law_2199 t_3705 ?_
  refine x_land (M := (M_law nm)) dL_law_2202 ?_
  refine x_lor (M := (M_law nm)) dL_law_2203 ?_
  refine y_callSW (M := (M_law nm)) (M' := M_L_point) rfl rfl dL_law_2204 m_L_point t_2302 t_2303 (q4375 hl c0 c1 c2 c3 o4376) rfl rfl (Nat.le_of_ble_eq_true rfl) (Nat.le_of_ble_eq_true rfl) (Nat.le_of_ble_eq_true rfl) (Nat.le_of_ble_eq_true rfl) (fun h4377 f4378 w4379 => ?_)
  refine x_istore (M := (M_law nm)) dL_law_2207 (Nat.le_of_ble_eq_true rfl) rfl ?_
  refine x_aload_n (M := (M_law nm)) dL_law_2209 rfl ?_
  refine x_aload_n (M := (M_law nm)) dL_law_2210 rfl ?_
  refine x_iload (M := (M_law nm)) dL_law_2211 rfl ?_
  refine x_iconst (M := (M_law nm)) dL_law_2213 ?_
  refine x_iadd (M := (M_law nm)) dL_law_2214 ?_
  refine x_sald (M := (M_law nm)) dL_law_2215 (by decide) hx (vp_inD (by decide +kernel)) ?_
  refine x_top (M := (M_law nm)) (y := a0) ((congrArg xs (by decide +kernel : ((Int32.ofInt 1) + (Int32.ofInt 1)).toNatClampNeg = 2)).trans e2) ?_
  refine x_aload_n (M := (M_law nm)) dL_law_2216 rfl ?_
  refine x_iload (M := (M_law nm)) dL_law_2217 rfl ?_
  refine x_iconst (M := (M_law nm)) dL_law_2219 ?_
  refine x_iadd (M := (M_law nm)) dL_law_2220 ?_
  refine x_sald (M := (M_law nm)) dL_law_2221 (by decide) hx (vp_inD (by decide +kernel)) ?_
  refine x_top (M := (M_law nm)) (y := a1) ((congrArg xs (by decide +kernel : ((Int32.ofInt 1) + (Int32.ofInt 2)).toNatClampNeg = 3)).trans e3) ?_
  refine x_i2l (M := (M_law nm)) dL_law_2222 ?_
  refine x_bipush (M := (M_law nm)) dL_law_2223 ?_
  refine x_lshl (M := (M_law nm)) dL_law_2225 ?_
  refine x_aload_n (M := (M_law nm)) dL_law_2226 rfl ?_
  refine x_iload (M := (M_law nm)) dL_law_2227 rfl ?_
  refine x_iconst (M := (M_law nm)) dL_law_2229 ?_
  refine x_iadd (M := (M_law nm)) dL_law_2230 ?_
  refine x_sald (M := (M_law nm)) dL_law_2231 (by decide) hx (vp_inD (by decide +kernel)) ?_
  refine x_top (M := (M_law nm)) (y := a2) ((congrArg xs (by decide +kernel : ((Int32.ofInt 1) + (Int32.ofInt 3)).toNatClampNeg = 4)).trans e4) ?_
  refine x_i2l (M := (M_law nm)) dL_law_2232 ?_
  refine x_ldc2 (M := (M_law nm)) dL_law_2233 t_3705 ?_
  refine x_land (M := (M_law nm)) dL_law_2236 ?_
  refine x_lor (M := (M_law nm)) dL_law_2237 ?_
  refine x_aload_n (M := (M_law nm)) dL_law_2238 rfl ?_
  refine x_iload (M := (M_law nm)) dL_law_2239 rfl ?_
  refine x_iconst (M := (M_law nm)) dL_law_2241 ?_
  refine x_iadd (M := (M_law nm)) dL_law_2242 ?_
  refine x_sald (M := (M_law nm)) dL_law_2243 (by decide) hx (vp_inD (by decide +kernel)) ?_
  refine x_top (M := (M_law nm)) (y := a3) ((congrArg xs (by decide +kernel : ((Int32.ofInt 1) + (Int32.ofInt 4)).toNatClampNeg = 5)).trans e5) ?_
  refine x_i2l (M := (M_law nm)) dL_law_2244 ?_
  refine x_bipush (M := (M_law nm)) dL_law_2245 ?_
  refine x_lshl (M := (M_law nm)) dL_law_2247 ?_
  refine x_aload_n (M := (M_law nm)) dL_law_2248 rfl ?_
  refine x_iload (M := (M_law nm)) dL_law_2249 rfl ?_
  refine x_iconst (M := (M_law nm)) dL_law_2251 ?_
  refine x_iadd (M := (M_law nm)) dL_law_2252 ?_
  refine x_sald (M := (M_law nm)) dL_law_2253 (by decide) hx (vp_inD (by decide +kernel)) ?_
  refine x_top (M := (M_law nm)) (y := a4) ((congrArg xs (by decide +kernel : ((Int32.ofInt 1) + (Int32.ofInt 5)).toNatClampNeg = 6)).trans e6) ?_
  refine x_i2l (M := (M_law nm)) dL_law_2254 ?_
  refine x_ldc2 (M := (M_law nm)) dL_law_2255 t_3705 ?_
  refine x_land (M := (M_law nm)) dL_law_2258 ?_
  refine x_lor (M := (M_law nm)) dL_law_2259 ?_
  have o4394 := (f4378 277 _ (by decide) o4393)
  refine y_callVR (M := (M_law nm)) (M' := M_X12_point) rfl rfl dL_law_2260 m_X12_point t_3150 t_3151 t_3152 (q4392 hl c0 c1 c2 c3 o4394) rfl rfl o4394 rfl (Nat.le_of_ble_eq_true rfl) (Nat.le_of_ble_eq_true rfl) (Nat.le_of_ble_eq_true rfl) (Nat.le_of_ble_eq_true rfl) (fun h4395 f4396 w4397 => ?_)
  obtain ⟨o4398, -⟩ := w4397
  refine x_aload_n (M := (M_law nm)) dL_law_2263 rfl ?_
  refine x_callVR (M := (M_law nm)) (M' := M_X12_thrown) rfl rfl dL_law_2264 m_X12_thrown t_2797 t_2798 t_2799 (q774 hl o4398) rfl rfl o4398 rfl (Nat.le_of_ble_eq_true rfl) (Nat.le_of_ble_eq_true rfl) (Nat.le_of_ble_eq_true rfl) (Nat.le_of_ble_eq_true rfl) ?_
  refine x_iload (M := (M_law nm)) dL_law_2267 rfl ?_
  refine x_icmp_eq (M := (M_law nm)) (tgt := 2274) dL_law_2269 (by decide) (fun _ => ?_) (fun q => absurd q (by decide +kernel))
  refine x_goto (M := (M_law nm)) (tgt := 2449) dL_law_2274 (by decide) ?_
  refine x_iinc (M := (M_law nm)) dL_law_2449 rfl (Nat.le_of_ble_eq_true rfl) rfl ?_
  refine x_lvs (M := (M_law nm)) (lv' := [some (.ref 0), some (.ref 32), some (.ref 277), some (.ref 359), some (.int (Int32.ofInt 7)), some (.int (Int32.ofInt 2)), none, none]) (by rw [(by decide +kernel : (Int32.ofInt 1) + Int32.ofInt 6 = (Int32.ofInt 7))] <;> rfl) ?_
  refine x_goto (M := (M_law nm)) (tgt := 33) dL_law_2452 (by decide) ?_
  refine x_iload (M := (M_law nm)) dL_law_33 rfl ?_
  refine x_aload_n (M := (M_law nm)) dL_law_35 rfl ?_
  refine x_slen (M := (M_law nm)) dL_law_36 (by decide) hx ?_
  refine x_bipush (M := (M_law nm)) dL_law_37 ?_
  refine x_isub (M := (M_law nm)) dL_law_39 ?_
  refine x_icmp_gt (M := (M_law nm)) (tgt := 2455) dL_law_40 (by decide) (fun _ => ?_) (fun q => absurd q (by decide +kernel))
  refine x_iconst (M := (M_law nm)) dL_law_2455 ?_
  exact x_zret (M := (M_law nm)) dL_law_2456 rfl (by decide) rfl (Nat.le_of_ble_eq_true rfl) (Nat.le_of_ble_eq_true rfl)
set_option maxRecDepth 10000 in
theorem q4399 {l : Launch} {E : EE} (hl : l.stackTraces = false) {h : HP} {a3 : Int32} {a4 : Int32} (c0 : ¬ ((lg_cmp ((((((a3.toInt64) <<< (((Int8.ofInt 32).toInt32).toInt64 &&& 63)) ||| ((a4.toInt64) &&& (4294967295 : Int64))).toUInt64 >>> (((Int8.ofInt 52).toInt32).toInt64.toUInt64 &&& Int64.toUInt64 63)).toInt64) &&& (2047 : Int64)) (2047 : Int64)) = 0)) : en_C l E M_X11_isNoNumber 0 0 0 [.long (((a3.toInt64) <<< (((Int8.ofInt 32).toInt32).toInt64 &&& 63)) ||| ((a4.toInt64) &&& (4294967295 : Int64)))] h (pR (some (.int (Int32.ofInt 0))) h) := by
  refine en_mk m_X11_isNoNumber rfl hl (Nat.le_of_ble_eq_true rfl) ?_
  refine x_lload_n (M := M_X11_isNoNumber) dX11_isNoNumber_0 rfl ?_
  refine x_bipush (M := M_X11_isNoNumber) dX11_isNoNumber_1 ?_
  refine x_lushr (M := M_X11_isNoNumber) dX11_isNoNumber_3 ?_
  refine x_ldc2 (M := M_X11_isNoNumber) dX11_isNoNumber_4 t_2315 ?_
  refine x_land (M := M_X11_isNoNumber) dX11_isNoNumber_7 ?_
  refine x_ldc2 (M := M_X11_isNoNumber) dX11_isNoNumber_8 t_2315 ?_
  refine x_lcmp (M := M_X11_isNoNumber) dX11_isNoNumber_11 ?_
  refine x_if_ne (M := M_X11_isNoNumber) (tgt := 19) dX11_isNoNumber_12 (by decide) (fun _ => ?_) (fun q => absurd q c0)
  refine x_iconst (M := M_X11_isNoNumber) dX11_isNoNumber_19 ?_
  exact x_zret (M := M_X11_isNoNumber) dX11_isNoNumber_20 rfl (by decide) ⟨rfl, rfl⟩ (Nat.le_of_ble_eq_true rfl) (Nat.le_of_ble_eq_true rfl)
set_option maxRecDepth 10000 in
theorem q4414 {l : Launch} {E : EE} (hl : l.stackTraces = false) {h : HP} {a0 : Int32} {a1 : Int32} {a2 : Int32} {a3 : Int32} {a4 : Int32} (c0 : ¬ (a0.toInt < 0)) (c1 : a0.toInt < 32) (c2 : ¬ ((lg_cmp ((((((a1.toInt64) <<< (((Int8.ofInt 32).toInt32).toInt64 &&& 63)) ||| ((a2.toInt64) &&& (4294967295 : Int64))).toUInt64 >>> (((Int8.ofInt 52).toInt32).toInt64.toUInt64 &&& Int64.toUInt64 63)).toInt64) &&& (2047 : Int64)) (2047 : Int64)) = 0)) (c3 : ¬ ((lg_cmp ((((((a3.toInt64) <<< (((Int8.ofInt 32).toInt32).toInt64 &&& 63)) ||| ((a4.toInt64) &&& (4294967295 : Int64))).toUInt64 >>> (((Int8.ofInt 52).toInt32).toInt64.toUInt64 &&& Int64.toUInt64 63)).toInt64) &&& (2047 : Int64)) (2047 : Int64)) = 0)) (o4400 : ob h 32 = some (.inr (14, [.ref 33, .ref 162, .ref 166, .int (0 : Int32), .int (0 : Int32), .int (0 : Int32), .ref 167, .ref 170, .ref 173, .ref 177, .ref 193, .ref 208, .ref 222, .ref 238, .ref 252, .ref 274, .ref 275, .ref 276, .int (0 : Int32)]))) (o4401 : ob h 252 = some (.inr (10, [.ref 253, .ref 254, .ref 255, .ref 272, .ref 273]))) (o4402 : ob h 253 = some (.inl (1, 32, .inr (.inl (fun _ => 0))))) (o4408 : ob h 254 = some (.inl (1, 32, .inr (.inl (fun _ => 0))))) : en_C l E M_X11_point 1 0 0 [.ref 32, .int a0, .long (((a1.toInt64) <<< (((Int8.ofInt 32).toInt32).toInt64 &&& 63)) ||| ((a2.toInt64) &&& (4294967295 : Int64))), .long (((a3.toInt64) <<< (((Int8.ofInt 32).toInt32).toInt64 &&& 63)) ||| ((a4.toInt64) &&& (4294967295 : Int64)))] h (pF none [253, 254] h (fun h' => ob h' 253 = some (.inl (1, 32, .inr (.inl (vp_updL (fun _ => 0) a0.toNatClampNeg (((a1.toInt64) <<< (((Int8.ofInt 32).toInt32).toInt64 &&& 63)) ||| ((a2.toInt64) &&& (4294967295 : Int64))))))) ∧ ob h' 254 = some (.inl (1, 32, .inr (.inl (vp_updL (fun _ => 0) a0.toNatClampNeg (((a3.toInt64) <<< (((Int8.ofInt 32).toInt32).toInt64 &&& 63)) ||| ((a4.toInt64) &&& (4294967295 : Int64))))))) ∧ True)) := by
  refine en_mk m_X11_point rfl hl (Nat.le_of_ble_eq_true rfl) ?_
  refine x_iload_n (M := M_X11_point) dX11_point_0 rfl ?_
  refine x_callSR (M := M_X11_point) (M' := M_X11_isNoSignPoint) rfl rfl dX11_point_1 m_X11_isNoSignPoint t_2309 t_2310 (q4334 hl c0 c1) rfl rfl (Nat.le_of_ble_eq_true rfl) (Nat.le_of_ble_eq_true rfl) (Nat.le_of_ble_eq_true rfl) (Nat.le_of_ble_eq_true rfl) ?_
  refine x_if_eq (M := M_X11_point) (tgt := 15) dX11_point_4 (by decide) (fun _ => ?_) (fun q => absurd q (by decide +kernel))
  refine x_lload_n (M := M_X11_point) dX11_point_15 rfl ?_
  refine x_callSR (M := M_X11_point) (M' := M_X11_isNoNumber) rfl rfl dX11_point_16 m_X11_isNoNumber t_2312 t_2313 (q4367 hl c2) rfl rfl (Nat.le_of_ble_eq_true rfl) (Nat.le_of_ble_eq_true rfl) (Nat.le_of_ble_eq_true rfl) (Nat.le_of_ble_eq_true rfl) ?_
  refine x_if_ne (M := M_X11_point) (tgt := 30) dX11_point_19 (by decide) (fun q => absurd q (by decide +kernel)) (fun _ => ?_)
  refine x_lload (M := M_X11_point) dX11_point_22 rfl ?_
  refine x_callSR (M := M_X11_point) (M' := M_X11_isNoNumber) rfl rfl dX11_point_24 m_X11_isNoNumber t_2312 t_2313 (q4399 hl c3) rfl rfl (Nat.le_of_ble_eq_true rfl) (Nat.le_of_ble_eq_true rfl) (Nat.le_of_ble_eq_true rfl) (Nat.le_of_ble_eq_true rfl) ?_
  refine x_if_eq (M := M_X11_point) (tgt := 38) dX11_point_27 (by decide) (fun _ => ?_) (fun q => absurd q (by decide +kernel))
  refine x_aload_n (M := M_X11_point) dX11_point_38 rfl ?_
  refine x_getf (M := M_X11_point) (ci := 14) (C := RX11) (T := TX11) (N := 19) (ty := tyX11) cl14 dX11_point_39 o4400 14 (by decide) t_577 (v := .ref 252) rfl ?_
  refine x_getf (M := M_X11_point) (ci := 10) (C := RX7) (T := TX7) (N := 5) (ty := tyX7) cl10 dX11_point_42 o4401 0 (by decide) t_546 (v := .ref 253) rfl ?_
  refine x_iload_n (M := M_X11_point) dX11_point_45 rfl ?_
  refine x_lload_n (M := M_X11_point) dX11_point_46 rfl ?_
  refine y_last (M := M_X11_point) (k := a0.toNatClampNeg) dX11_point_47 o4402 (vp_in_s (by omega) (by omega)) rfl (fun h4403 w4404 f4405 => ?_)
  refine x_aload_n (M := M_X11_point) dX11_point_48 rfl ?_
  have o4406 := (f4405 32 _ (by decide) o4400)
  refine x_getf (M := M_X11_point) (ci := 14) (C := RX11) (T := TX11) (N := 19) (ty := tyX11) cl14 dX11_point_49 o4406 14 (by decide) t_577 (v := .ref 252) rfl ?_
  have o4407 := (f4405 252 _ (by decide) o4401)
  refine x_getf (M := M_X11_point) (ci := 10) (C := RX7) (T := TX7) (N := 5) (ty := tyX7) cl10 dX11_point_52 o4407 1 (by decide) t_548 (v := .ref 254) rfl ?_
  refine x_iload_n (M := M_X11_point) dX11_point_55 rfl ?_
  refine x_lload (M := M_X11_point) dX11_point_56 rfl ?_
  have o4409 := (f4405 254 _ (by decide) o4408)
  refine y_last (M := M_X11_point) (k := a0.toNatClampNeg) dX11_point_58 o4409 (vp_in_s (by omega) (by omega)) rfl (fun h4410 w4411 f4412 => ?_)
  have o4413 := (f4412 253 _ (by decide) w4404)
  exact x_vret (M := M_X11_point) dX11_point_59 rfl ⟨rfl, (fr_tr f4412 (by decide) (fr_tr f4405 (by decide) fr_rf)), ⟨o4413, w4411, trivial⟩⟩ (Nat.le_of_ble_eq_true rfl) (Nat.le_of_ble_eq_true rfl)
set_option maxRecDepth 10000 in
theorem q4424 {l : Launch} {E : EE} (hl : l.stackTraces = false) {h : HP} {a0 : Int32} {a1 : Int32} {a2 : Int32} {a3 : Int32} {a4 : Int32} (c0 : ¬ (a0.toInt < 0)) (c1 : a0.toInt < 32) (c2 : ¬ ((lg_cmp ((((((a1.toInt64) <<< (((Int8.ofInt 32).toInt32).toInt64 &&& 63)) ||| ((a2.toInt64) &&& (4294967295 : Int64))).toUInt64 >>> (((Int8.ofInt 52).toInt32).toInt64.toUInt64 &&& Int64.toUInt64 63)).toInt64) &&& (2047 : Int64)) (2047 : Int64)) = 0)) (c3 : ¬ ((lg_cmp ((((((a3.toInt64) <<< (((Int8.ofInt 32).toInt32).toInt64 &&& 63)) ||| ((a4.toInt64) &&& (4294967295 : Int64))).toUInt64 >>> (((Int8.ofInt 52).toInt32).toInt64.toUInt64 &&& Int64.toUInt64 63)).toInt64) &&& (2047 : Int64)) (2047 : Int64)) = 0)) (o4415 : ob h 32 = some (.inr (14, [.ref 33, .ref 162, .ref 166, .int (0 : Int32), .int (0 : Int32), .int (0 : Int32), .ref 167, .ref 170, .ref 173, .ref 177, .ref 193, .ref 208, .ref 222, .ref 238, .ref 252, .ref 274, .ref 275, .ref 276, .int (0 : Int32)]))) (o4416 : ob h 252 = some (.inr (10, [.ref 253, .ref 254, .ref 255, .ref 272, .ref 273]))) (o4417 : ob h 253 = some (.inl (1, 32, .inr (.inl (fun _ => 0))))) (o4418 : ob h 254 = some (.inl (1, 32, .inr (.inl (fun _ => 0))))) : en_C l E M_L_point 2 0 0 [.ref 32, .int a0, .long (((a1.toInt64) <<< (((Int8.ofInt 32).toInt32).toInt64 &&& 63)) ||| ((a2.toInt64) &&& (4294967295 : Int64))), .long (((a3.toInt64) <<< (((Int8.ofInt 32).toInt32).toInt64 &&& 63)) ||| ((a4.toInt64) &&& (4294967295 : Int64)))] h (pF (some (.int (Int32.ofInt 0))) [253, 254] h (fun _ => True)) := by
  refine en_mkW m_L_point rfl hl (Nat.le_of_ble_eq_true rfl) ?_
  refine x_aload_n (M := M_L_point) dL_point_0 rfl ?_
  refine x_iload_n (M := M_L_point) dL_point_1 rfl ?_
  refine x_lload_n (M := M_L_point) dL_point_2 rfl ?_
  refine x_lload (M := M_L_point) dL_point_3 rfl ?_
  refine y_callVHR (M := M_L_point) (M' := M_X11_point) rfl dL_point_5 m_X11_point t_2305 t_2306 t_2307 o4415 rfl (q4414 hl c0 c1 c2 c3 o4415 o4416 o4417 o4418) rfl rfl (Nat.le_of_ble_eq_true rfl) (Nat.le_of_ble_eq_true rfl) (Nat.le_of_ble_eq_true rfl) (Nat.le_of_ble_eq_true rfl) (fun h4419 f4420 w4421 => ?_)
  obtain ⟨o4422, o4423, -⟩ := w4421
  refine x_goto (M := M_L_point) (tgt := 19) dL_point_8 (by decide) ?_
  refine x_iconst (M := M_L_point) dL_point_19 ?_
  exact x_iret (M := M_L_point) dL_point_20 rfl ⟨rfl, (fr_tr f4420 (by decide) fr_rf), trivial⟩ (Nat.le_of_ble_eq_true rfl) (Nat.le_of_ble_eq_true rfl)
set_option maxRecDepth 10000 in
theorem q4445 {l : Launch} {E : EE} (hl : l.stackTraces = false) {h : HP} {dg : Int32} (o4440 : ob h 277 = some (.inr (15, ((RB dg).set 0 (.int (Int32.ofInt 0)))))) : en_C l E M_X12_fails 0 0 0 [.ref 277, .int (Int32.ofInt 0), .int (Int32.ofInt 2)] h (pF (some (.int (Int32.ofInt 0))) [277] h (fun h' => ob h' 277 = some (.inr (15, ((RB dg).set 0 (.int (Int32.ofInt 0))))) ∧ True)) := by
  refine en_mk m_X12_fails rfl hl (Nat.le_of_ble_eq_true rfl) ?_
  refine x_aload_n (M := M_X12_fails) dX12_fails_0 rfl ?_
  refine x_iload_n (M := M_X12_fails) dX12_fails_1 rfl ?_
  refine x_if_eq (M := M_X12_fails) (tgt := 16) dX12_fails_2 (by decide) (fun _ => ?_) (fun q => absurd q (by decide +kernel))
  refine x_aload_n (M := M_X12_fails) dX12_fails_16 rfl ?_
  refine x_getf (M := M_X12_fails) (ci := 15) (C := RX12) (T := TX12) (N := 135) (ty := tyX12) cl15 dX12_fails_17 o4440 0 (by decide) t_2391 (v := .int (Int32.ofInt 0)) rfl ?_
  refine y_put (M := M_X12_fails) (ci := 15) (C := RX12) (T := TX12) (N := 135) (ty := tyX12) cl15 dX12_fails_20 o4440 0 (by decide) t_2391 (Or.inl rfl) (Nat.le_of_ble_eq_true rfl) rfl (fun h4441 w4442 f4443 => ?_)
  have w4444 : ob h4441 277 = some (.inr (15, ((RB dg).set 0 (.int (Int32.ofInt 0))))) := by rw [w4442, List.set_set]
  refine x_aload_n (M := M_X12_fails) dX12_fails_23 rfl ?_
  refine x_getf (M := M_X12_fails) (ci := 15) (C := RX12) (T := TX12) (N := 135) (ty := tyX12) cl15 dX12_fails_24 w4444 0 (by decide) t_2391 (v := .int (Int32.ofInt 0)) rfl ?_
  refine x_if_eq (M := M_X12_fails) (tgt := 34) dX12_fails_27 (by decide) (fun _ => ?_) (fun q => absurd q (by decide +kernel))
  refine x_iconst (M := M_X12_fails) dX12_fails_34 ?_
  exact x_zret (M := M_X12_fails) dX12_fails_35 rfl (by decide) ⟨rfl, (fr_tr f4443 (by decide) fr_rf), ⟨w4444, trivial⟩⟩ (Nat.le_of_ble_eq_true rfl) (Nat.le_of_ble_eq_true rfl)
set_option maxRecDepth 10000 in
theorem q4463 {l : Launch} {E : EE} (hl : l.stackTraces = false) {h : HP} {a0 : Int32} {a1 : Int32} {a2 : Int32} {a3 : Int32} {a4 : Int32} {dg : Int32} (c0 : ¬ (a0.toInt < 0)) (c1 : a0.toInt < 32) (c2 : ¬ ((lg_cmp ((((((a1.toInt64) <<< (((Int8.ofInt 32).toInt32).toInt64 &&& 63)) ||| ((a2.toInt64) &&& (4294967295 : Int64))).toUInt64 >>> (((Int8.ofInt 52).toInt32).toInt64.toUInt64 &&& Int64.toUInt64 63)).toInt64) &&& (2047 : Int64)) (2047 : Int64)) = 0)) (c3 : ¬ ((lg_cmp ((((((a3.toInt64) <<< (((Int8.ofInt 32).toInt32).toInt64 &&& 63)) ||| ((a4.toInt64) &&& (4294967295 : Int64))).toUInt64 >>> (((Int8.ofInt 52).toInt32).toInt64.toUInt64 &&& Int64.toUInt64 63)).toInt64) &&& (2047 : Int64)) (2047 : Int64)) = 0)) (o4432 : ob h 277 = some (.inr (15, (RB dg)))) (o4450 : ob h 297 = some (.inl (1, 32, .inr (.inl (fun _ => 0))))) (o4456 : ob h 298 = some (.inl (1, 32, .inr (.inl (fun _ => 0))))) : en_C l E M_X12_point 1 0 0 [.ref 277, .int a0, .long (((a1.toInt64) <<< (((Int8.ofInt 32).toInt32).toInt64 &&& 63)) ||| ((a2.toInt64) &&& (4294967295 : Int64))), .long (((a3.toInt64) <<< (((Int8.ofInt 32).toInt32).toInt64 &&& 63)) ||| ((a4.toInt64) &&& (4294967295 : Int64)))] h (pF none [277, 297, 298] h (fun h' => ob h' 277 = some (.inr (15, ((RB dg).set 0 (.int (Int32.ofInt 0))))) ∧ ob h' 297 = some (.inl (1, 32, .inr (.inl (vp_updL (fun _ => 0) a0.toNatClampNeg (((a1.toInt64) <<< (((Int8.ofInt 32).toInt32).toInt64 &&& 63)) ||| ((a2.toInt64) &&& (4294967295 : Int64))))))) ∧ ob h' 298 = some (.inl (1, 32, .inr (.inl (vp_updL (fun _ => 0) a0.toNatClampNeg (((a3.toInt64) <<< (((Int8.ofInt 32).toInt32).toInt64 &&& 63)) ||| ((a4.toInt64) &&& (4294967295 : Int64))))))) ∧ True)) := by
  refine en_mk m_X12_point rfl hl (Nat.le_of_ble_eq_true rfl) ?_
  refine x_aload_n (M := M_X12_point) dX12_point_0 rfl ?_
  refine x_iconst (M := M_X12_point) dX12_point_1 ?_
  refine y_put (M := M_X12_point) (ci := 15) (C := RX12) (T := TX12) (N := 135) (ty := tyX12) cl15 dX12_point_2 o4432 0 (by decide) t_2391 (Or.inl rfl) (Nat.le_of_ble_eq_true rfl) rfl (fun h4433 w4434 f4435 => ?_)
  refine x_lload_n (M := M_X12_point) dX12_point_5 rfl ?_
  refine x_bipush (M := M_X12_point) dX12_point_6 ?_
  refine x_lushr (M := M_X12_point) dX12_point_8 ?_
  refine x_ldc2 (M := M_X12_point) dX12_point_9 t_2994 ?_
  refine x_land (M := M_X12_point) dX12_point_12 ?_
  refine x_ldc2 (M := M_X12_point) dX12_point_13 t_2994 ?_
  refine x_lcmp (M := M_X12_point) dX12_point_16 ?_
  refine x_if_eq (M := M_X12_point) (tgt := 36) dX12_point_17 (by decide) (fun q => absurd q c2) (fun _ => ?_)
  refine x_lload (M := M_X12_point) dX12_point_20 rfl ?_
  refine x_bipush (M := M_X12_point) dX12_point_22 ?_
  refine x_lushr (M := M_X12_point) dX12_point_24 ?_
  refine x_ldc2 (M := M_X12_point) dX12_point_25 t_2994 ?_
  refine x_land (M := M_X12_point) dX12_point_28 ?_
  refine x_ldc2 (M := M_X12_point) dX12_point_29 t_2994 ?_
  refine x_lcmp (M := M_X12_point) dX12_point_32 ?_
  refine x_if_ne (M := M_X12_point) (tgt := 40) dX12_point_33 (by decide) (fun _ => ?_) (fun q => absurd q c3)
  refine x_iconst (M := M_X12_point) dX12_point_40 ?_
  refine x_istore (M := M_X12_point) dX12_point_41 (Nat.le_of_ble_eq_true rfl) rfl ?_
  refine x_aload_n (M := M_X12_point) dX12_point_43 rfl ?_
  refine x_iload_n (M := M_X12_point) dX12_point_44 rfl ?_
  refine x_callSR (M := M_X12_point) (M' := M_X12_isPoint) rfl rfl dX12_point_45 m_X12_isPoint t_3154 t_3155 (q4351 hl c0 c1) rfl rfl (Nat.le_of_ble_eq_true rfl) (Nat.le_of_ble_eq_true rfl) (Nat.le_of_ble_eq_true rfl) (Nat.le_of_ble_eq_true rfl) ?_
  refine x_if_ne (M := M_X12_point) (tgt := 55) dX12_point_48 (by decide) (fun _ => ?_) (fun q => absurd q (by decide +kernel))
  refine x_iconst (M := M_X12_point) dX12_point_55 ?_
  refine x_iconst (M := M_X12_point) dX12_point_56 ?_
  refine y_callVR (M := M_X12_point) (M' := M_X12_fails) rfl rfl dX12_point_57 m_X12_fails t_2805 t_2807 s_157 (q241 hl w4434) rfl rfl w4434 rfl (Nat.le_of_ble_eq_true rfl) (Nat.le_of_ble_eq_true rfl) (Nat.le_of_ble_eq_true rfl) (Nat.le_of_ble_eq_true rfl) (fun h4436 f4437 w4438 => ?_)
  obtain ⟨o4439, -⟩ := w4438
  refine x_if_ne (M := M_X12_point) (tgt := 73) dX12_point_60 (by decide) (fun q => absurd q (by decide +kernel)) (fun _ => ?_)
  refine x_aload_n (M := M_X12_point) dX12_point_63 rfl ?_
  refine x_iload (M := M_X12_point) dX12_point_64 rfl ?_
  refine x_iconst (M := M_X12_point) dX12_point_66 ?_
  refine y_callVR (M := M_X12_point) (M' := M_X12_fails) rfl rfl dX12_point_67 m_X12_fails t_2805 t_2807 s_157 (q4445 hl o4439) rfl rfl o4439 rfl (Nat.le_of_ble_eq_true rfl) (Nat.le_of_ble_eq_true rfl) (Nat.le_of_ble_eq_true rfl) (Nat.le_of_ble_eq_true rfl) (fun h4446 f4447 w4448 => ?_)
  obtain ⟨o4449, -⟩ := w4448
  refine x_if_eq (M := M_X12_point) (tgt := 74) dX12_point_70 (by decide) (fun _ => ?_) (fun q => absurd q (by decide +kernel))
  refine x_aload_n (M := M_X12_point) dX12_point_74 rfl ?_
  refine x_getf (M := M_X12_point) (ci := 15) (C := RX12) (T := TX12) (N := 135) (ty := tyX12) cl15 dX12_point_75 o4449 39 (by decide) t_2430 (v := .ref 297) rfl ?_
  refine x_iload_n (M := M_X12_point) dX12_point_78 rfl ?_
  refine x_lload_n (M := M_X12_point) dX12_point_79 rfl ?_
  have o4451 := (f4447 297 _ (by decide) (f4437 297 _ (by decide) (f4435 297 _ (by decide) o4450)))
  refine y_last (M := M_X12_point) (k := a0.toNatClampNeg) dX12_point_80 o4451 (vp_in_s (by omega) (by omega)) rfl (fun h4452 w4453 f4454 => ?_)
  refine x_aload_n (M := M_X12_point) dX12_point_81 rfl ?_
  have o4455 := (f4454 277 _ (by decide) o4449)
  refine x_getf (M := M_X12_point) (ci := 15) (C := RX12) (T := TX12) (N := 135) (ty := tyX12) cl15 dX12_point_82 o4455 40 (by decide) t_2431 (v := .ref 298) rfl ?_
  refine x_iload_n (M := M_X12_point) dX12_point_85 rfl ?_
  refine x_lload (M := M_X12_point) dX12_point_86 rfl ?_
  have o4457 := (f4454 298 _ (by decide) (f4447 298 _ (by decide) (f4437 298 _ (by decide) (f4435 298 _ (by decide) o4456))))
  refine y_last (M := M_X12_point) (k := a0.toNatClampNeg) dX12_point_88 o4457 (vp_in_s (by omega) (by omega)) rfl (fun h4458 w4459 f4460 => ?_)
  have o4461 := (f4460 277 _ (by decide) o4455)
  have o4462 := (f4460 297 _ (by decide) w4453)
  exact x_vret (M := M_X12_point) dX12_point_89 rfl ⟨rfl, (fr_tr f4460 (by decide) (fr_tr f4454 (by decide) (fr_tr f4447 (by decide) (fr_tr f4437 (by decide) (fr_tr f4435 (by decide) fr_rf))))), ⟨o4461, o4462, w4459, trivial⟩⟩ (Nat.le_of_ble_eq_true rfl) (Nat.le_of_ble_eq_true rfl)
set_option maxRecDepth 10000 in
theorem lc29_5 {l : Launch} {E : EE} (hl : l.stackTraces = false) (nm : String) {xs : Nat → Int32} (hx : E.2.2.2.2 0 = some (7, xs)) {h : HP} {a0 : Int32} {a1 : Int32} {a2 : Int32} {a3 : Int32} {a4 : Int32} {dg : Int32} (e2 : xs 2 = a0) (e3 : xs 3 = a1) (e4 : xs 4 = a2) (e5 : xs 5 = a3) (e6 : xs 6 = a4) (c0 : ¬ (a0.toInt < 0)) (c1 : a0.toInt < 32) (c2 : ¬ ((lg_cmp ((((((a1.toInt64) <<< (((Int8.ofInt 32).toInt32).toInt64 &&& 63)) ||| ((a2.toInt64) &&& (4294967295 : Int64))).toUInt64 >>> (((Int8.ofInt 52).toInt32).toInt64.toUInt64 &&& Int64.toUInt64 63)).toInt64) &&& (2047 : Int64)) (2047 : Int64)) = 0)) (c3 : ¬ ((lg_cmp ((((((a3.toInt64) <<< (((Int8.ofInt 32).toInt32).toInt64 &&& 63)) ||| ((a4.toInt64) &&& (4294967295 : Int64))).toUInt64 >>> (((Int8.ofInt 52).toInt32).toInt64.toUInt64 &&& Int64.toUInt64 63)).toInt64) &&& (2047 : Int64)) (2047 : Int64)) = 0)) (o4425 : ob h 32 = some (.inr (14, [.ref 33, .ref 162, .ref 166, .int (0 : Int32), .int (0 : Int32), .int (0 : Int32), .ref 167, .ref 170, .ref 173, .ref 177, .ref 193, .ref 208, .ref 222, .ref 238, .ref 252, .ref 274, .ref 275, .ref 276, .int (0 : Int32)]))) (o4426 : ob h 252 = some (.inr (10, [.ref 253, .ref 254, .ref 255, .ref 272, .ref 273]))) (o4427 : ob h 253 = some (.inl (1, 32, .inr (.inl (fun _ => 0))))) (o4428 : ob h 254 = some (.inl (1, 32, .inr (.inl (fun _ => 0))))) (o4464 : ob h 277 = some (.inr (15, (RB dg)))) (o4466 : ob h 297 = some (.inl (1, 32, .inr (.inl (fun _ => 0))))) (o4468 : ob h 298 = some (.inl (1, 32, .inr (.inl (fun _ => 0))))) : XX l E (M_law nm) 1312 342628 8074320 (fun o _ => o = .inl (some (.int 1))) 2153 [some (.ref 0), some (.ref 32), some (.ref 277), some (.ref 359), some (.int (Int32.ofInt 1)), none, none, none] [] h 328 2463747 := by
  refine x_aload_n (M := (M_law nm)) dL_law_2153 rfl ?_
  refine x_aload_n (M := (M_law nm)) dL_law_2154 rfl ?_
  refine x_iload (M := (M_law nm)) dL_law_2155 rfl ?_
  refine x_iconst (M := (M_law nm)) dL_law_2157 ?_
  refine x_iadd (M := (M_law nm)) dL_law_2158 ?_
  refine x_sald (M := (M_law nm)) dL_law_2159 (by decide) hx (vp_inD (by decide +kernel)) ?_
  refine x_top (M := (M_law nm)) (y := a0) ((congrArg xs (by decide +kernel : ((Int32.ofInt 1) + (Int32.ofInt 1)).toNatClampNeg = 2)).trans e2) ?_
  refine x_aload_n (M := (M_law nm)) dL_law_2160 rfl ?_
  refine x_iload (M := (M_law nm)) dL_law_2161 rfl ?_
  refine x_iconst (M := (M_law nm)) dL_law_2163 ?_
  refine x_iadd (M := (M_law nm)) dL_law_2164 ?_
  refine x_sald (M := (M_law nm)) dL_law_2165 (by decide) hx (vp_inD (by decide +kernel)) ?_
  refine x_top (M := (M_law nm)) (y := a1) ((congrArg xs (by decide +kernel : ((Int32.ofInt 1) + (Int32.ofInt 2)).toNatClampNeg = 3)).trans e3) ?_
  refine x_i2l (M := (M_law nm)) dL_law_2166 ?_
  refine x_bipush (M := (M_law nm)) dL_law_2167 ?_
  refine x_lshl (M := (M_law nm)) dL_law_2169 ?_
  refine x_aload_n (M := (M_law nm)) dL_law_2170 rfl ?_
  refine x_iload (M := (M_law nm)) dL_law_2171 rfl ?_
  refine x_iconst (M := (M_law nm)) dL_law_2173 ?_
  refine x_iadd (M := (M_law nm)) dL_law_2174 ?_
  refine x_sald (M := (M_law nm)) dL_law_2175 (by decide) hx (vp_inD (by decide +kernel)) ?_
  refine x_top (M := (M_law nm)) (y := a2) ((congrArg xs (by decide +kernel : ((Int32.ofInt 1) + (Int32.ofInt 3)).toNatClampNeg = 4)).trans e4) ?_
  refine x_i2l (M := (M_law nm)) dL_law_2176 ?_
  refine x_ldc2 (M := (M_law nm)) dL_law_2177 t_3705 ?_
  refine x_land (M := (M_law nm)) dL_law_2180 ?_
  refine x_lor (M := (M_law nm)) dL_law_2181 ?_
  refine x_aload_n (M := (M_law nm)) dL_law_2182 rfl ?_
  refine x_iload (M := (M_law nm)) dL_law_2183 rfl ?_
  refine x_iconst (M := (M_law nm)) dL_law_2185 ?_
  refine x_iadd (M := (M_law nm)) dL_law_2186 ?_
  refine x_sald (M := (M_law nm)) dL_law_2187 (by decide) hx (vp_inD (by decide +kernel)) ?_
  refine x_top (M := (M_law nm)) (y := a3) ((congrArg xs (by decide +kernel : ((Int32.ofInt 1) + (Int32.ofInt 4)).toNatClampNeg = 5)).trans e5) ?_
  refine x_i2l (M := (M_law nm)) dL_law_2188 ?_
  refine x_bipush (M := (M_law nm)) dL_law_2189 ?_
  refine x_lshl (M := (M_law nm)) dL_law_2191 ?_
  refine x_aload_n (M := (M_law nm)) dL_law_2192 rfl ?_
  refine x_iload (M := (M_law nm)) dL_law_2193 rfl ?_
  refine x_iconst (M := (M_law nm)) dL_law_2195 ?_
  refine x_iadd (M := (M_law nm)) dL_law_2196 ?_
  refine x_sald (M := (M_law nm)) dL_law_2197 (by decide) hx (vp_inD (by decide +kernel)) ?_
  refine x_top (M := (M_law nm)) (y := a4) ((congrArg xs (by decide +kernel : ((Int32.ofInt 1) + (Int32.ofInt 5)).toNatClampNeg = 6)).trans e6) ?_
  refine x_i2l (M := (M_law nm)) dL_law_2198 ?_
  refine x_ldc2 (M := (M_law nm)) dL_law_2199 t_3705 ?_
  refine x_land (M := (M_law nm)) dL_law_2202 ?_
  refine x_lor (M := (M_law nm)) dL_law_2203 ?_
  refine y_callSW (M := (M_law nm)) (M' := M_L_point) rfl rfl dL_law_2204 m_L_point t_2302 t_2303 (q4424 hl c0 c1 c2 c3 o4425 o4426 o4427 o4428) rfl rfl (Nat.le_of_ble_eq_true rfl) (Nat.le_of_ble_eq_true rfl) (Nat.le_of_ble_eq_true rfl) (Nat.le_of_ble_eq_true rfl) (fun h4429 f4430 w4431 => ?_)
  refine x_istore (M := (M_law nm)) dL_law_2207 (Nat.le_of_ble_eq_true rfl) rfl ?_
  refine x_aload_n (M := (M_law nm)) dL_law_2209 rfl ?_
  refine x_aload_n (M := (M_law nm)) dL_law_2210 rfl ?_
  refine x_iload (M := (M_law nm)) dL_law_2211 rfl ?_
  refine x_iconst (M := (M_law nm)) dL_law_2213 ?_
  refine x_iadd (M := (M_law nm)) dL_law_2214 ?_
  refine x_sald (M := (M_law nm)) dL_law_2215 (by decide) hx (vp_inD (by decide +kernel)) ?_
  refine x_top (M := (M_law nm)) (y := a0) ((congrArg xs (by decide +kernel : ((Int32.ofInt 1) + (Int32.ofInt 1)).toNatClampNeg = 2)).trans e2) ?_
  refine x_aload_n (M := (M_law nm)) dL_law_2216 rfl ?_
  refine x_iload (M := (M_law nm)) dL_law_2217 rfl ?_
  refine x_iconst (M := (M_law nm)) dL_law_2219 ?_
  refine x_iadd (M := (M_law nm)) dL_law_2220 ?_
  refine x_sald (M := (M_law nm)) dL_law_2221 (by decide) hx (vp_inD (by decide +kernel)) ?_
  refine x_top (M := (M_law nm)) (y := a1) ((congrArg xs (by decide +kernel : ((Int32.ofInt 1) + (Int32.ofInt 2)).toNatClampNeg = 3)).trans e3) ?_
  refine x_i2l (M := (M_law nm)) dL_law_2222 ?_
  refine x_bipush (M := (M_law nm)) dL_law_2223 ?_
  refine x_lshl (M := (M_law nm)) dL_law_2225 ?_
  refine x_aload_n (M := (M_law nm)) dL_law_2226 rfl ?_
  refine x_iload (M := (M_law nm)) dL_law_2227 rfl ?_
  refine x_iconst (M := (M_law nm)) dL_law_2229 ?_
  refine x_iadd (M := (M_law nm)) dL_law_2230 ?_
  refine x_sald (M := (M_law nm)) dL_law_2231 (by decide) hx (vp_inD (by decide +kernel)) ?_
  refine x_top (M := (M_law nm)) (y := a2) ((congrArg xs (by decide +kernel : ((Int32.ofInt 1) + (Int32.ofInt 3)).toNatClampNeg = 4)).trans e4) ?_
  refine x_i2l (M := (M_law nm)) dL_law_2232 ?_
  refine x_ldc2 (M := (M_law nm)) dL_law_2233 t_3705 ?_
  refine x_land (M := (M_law nm)) dL_law_2236 ?_
  refine x_lor (M := (M_law nm)) dL_law_2237 ?_
  refine x_aload_n (M := (M_law nm)) dL_law_2238 rfl ?_
  refine x_iload (M := (M_law nm)) dL_law_2239 rfl ?_
  refine x_iconst (M := (M_law nm)) dL_law_2241 ?_
  refine x_iadd (M := (M_law nm)) dL_law_2242 ?_
  refine x_sald (M := (M_law nm)) dL_law_2243 (by decide) hx (vp_inD (by decide +kernel)) ?_
  refine x_top (M := (M_law nm)) (y := a3) ((congrArg xs (by decide +kernel : ((Int32.ofInt 1) + (Int32.ofInt 4)).toNatClampNeg = 5)).trans e5) ?_
  refine x_i2l (M := (M_law nm)) dL_law_2244 ?_
  refine x_bipush (M := (M_law nm)) dL_law_2245 ?_
  refine x_lshl (M := (M_law nm)) dL_law_2247 ?_
  refine x_aload_n (M := (M_law nm)) dL_law_2248 rfl ?_
  refine x_iload (M := (M_law nm)) dL_law_2249 rfl ?_
  refine x_iconst (M := (M_law nm)) dL_law_2251 ?_
  refine x_iadd (M := (M_law nm)) dL_law_2252 ?_
  refine x_sald (M := (M_law nm)) dL_law_2253 (by decide) hx (vp_inD (by decide +kernel)) ?_
  refine x_top (M := (M_law nm)) (y := a4) ((congrArg xs (by decide +kernel : ((Int32.ofInt 1) + (Int32.ofInt 5)).toNatClampNeg = 6)).trans e6) ?_
  refine x_i2l (M := (M_law nm)) dL_law_2254 ?_
  refine x_ldc2 (M := (M_law nm)) dL_law_2255 t_3705 ?_
  refine x_land (M := (M_law nm)) dL_law_2258 ?_
  refine x_lor (M := (M_law nm)) dL_law_2259 ?_
  have o4465 := (f4430 277 _ (by decide) o4464)
  have o4467 := (f4430 297 _ (by decide) o4466)
  have o4469 := (f4430 298 _ (by decide) o4468)
  refine y_callVR (M := (M_law nm)) (M' := M_X12_point) rfl rfl dL_law_2260 m_X12_point t_3150 t_3151 t_3152 (q4463 hl c0 c1 c2 c3 o4465 o4467 o4469) rfl rfl o4465 rfl (Nat.le_of_ble_eq_true rfl) (Nat.le_of_ble_eq_true rfl) (Nat.le_of_ble_eq_true rfl) (Nat.le_of_ble_eq_true rfl) (fun h4470 f4471 w4472 => ?_)
  obtain ⟨o4473, o4474, o4475, -⟩ := w4472
  refine x_aload_n (M := (M_law nm)) dL_law_2263 rfl ?_
  refine x_callVR (M := (M_law nm)) (M' := M_X12_thrown) rfl rfl dL_law_2264 m_X12_thrown t_2797 t_2798 t_2799 (q254 hl o4473) rfl rfl o4473 rfl (Nat.le_of_ble_eq_true rfl) (Nat.le_of_ble_eq_true rfl) (Nat.le_of_ble_eq_true rfl) (Nat.le_of_ble_eq_true rfl) ?_
  refine x_iload (M := (M_law nm)) dL_law_2267 rfl ?_
  refine x_icmp_eq (M := (M_law nm)) (tgt := 2274) dL_law_2269 (by decide) (fun _ => ?_) (fun q => absurd q (by decide +kernel))
  refine x_goto (M := (M_law nm)) (tgt := 2449) dL_law_2274 (by decide) ?_
  refine x_iinc (M := (M_law nm)) dL_law_2449 rfl (Nat.le_of_ble_eq_true rfl) rfl ?_
  refine x_lvs (M := (M_law nm)) (lv' := [some (.ref 0), some (.ref 32), some (.ref 277), some (.ref 359), some (.int (Int32.ofInt 7)), some (.int (Int32.ofInt 0)), none, none]) (by rw [(by decide +kernel : (Int32.ofInt 1) + Int32.ofInt 6 = (Int32.ofInt 7))] <;> rfl) ?_
  refine x_goto (M := (M_law nm)) (tgt := 33) dL_law_2452 (by decide) ?_
  refine x_iload (M := (M_law nm)) dL_law_33 rfl ?_
  refine x_aload_n (M := (M_law nm)) dL_law_35 rfl ?_
  refine x_slen (M := (M_law nm)) dL_law_36 (by decide) hx ?_
  refine x_bipush (M := (M_law nm)) dL_law_37 ?_
  refine x_isub (M := (M_law nm)) dL_law_39 ?_
  refine x_icmp_gt (M := (M_law nm)) (tgt := 2455) dL_law_40 (by decide) (fun _ => ?_) (fun q => absurd q (by decide +kernel))
  refine x_iconst (M := (M_law nm)) dL_law_2455 ?_
  exact x_zret (M := (M_law nm)) dL_law_2456 rfl (by decide) rfl (Nat.le_of_ble_eq_true rfl) (Nat.le_of_ble_eq_true rfl)
set_option maxRecDepth 10000 in
theorem q4476 {l : Launch} {E : EE} (hl : l.stackTraces = false) {h : HP} {a0 : Int32} (c0 : ¬ (a0.toInt < 0)) (c1 : ¬ (a0.toInt < 32)) : en_C l E M_X11_isNoSignPoint 0 0 0 [.int a0] h (pR (some (.int (Int32.ofInt 1))) h) := by
  refine en_mk m_X11_isNoSignPoint rfl hl (Nat.le_of_ble_eq_true rfl) ?_
  refine x_iload_n (M := M_X11_isNoSignPoint) dX11_isNoSignPoint_0 rfl ?_
  refine x_if_lt (M := M_X11_isNoSignPoint) (tgt := 10) dX11_isNoSignPoint_1 (by decide) (fun q => absurd ((bi_lt rfl (by decide +kernel)).mp q) (by omega : ¬ (a0.toInt < 0))) (fun _ => ?_)
  refine x_iload_n (M := M_X11_isNoSignPoint) dX11_isNoSignPoint_4 rfl ?_
  refine x_bipush (M := M_X11_isNoSignPoint) dX11_isNoSignPoint_5 ?_
  refine x_icmp_lt (M := M_X11_isNoSignPoint) (tgt := 14) dX11_isNoSignPoint_7 (by decide) (fun q => absurd ((bi_lt rfl (by decide +kernel)).mp q) (by omega : ¬ (a0.toInt < 32))) (fun _ => ?_)
  refine x_iconst (M := M_X11_isNoSignPoint) dX11_isNoSignPoint_10 ?_
  refine x_goto (M := M_X11_isNoSignPoint) (tgt := 15) dX11_isNoSignPoint_11 (by decide) ?_
  exact x_zret (M := M_X11_isNoSignPoint) dX11_isNoSignPoint_15 rfl (by decide) ⟨rfl, rfl⟩ (Nat.le_of_ble_eq_true rfl) (Nat.le_of_ble_eq_true rfl)
set_option maxRecDepth 10000 in
theorem q4478 {l : Launch} {E : EE} (hl : l.stackTraces = false) {h : HP} {a0 : Int32} {a1 : Int32} {a2 : Int32} {a3 : Int32} {a4 : Int32} (c0 : ¬ (a0.toInt < 0)) (c1 : ¬ (a0.toInt < 32)) : en_C l E M_X11_point 6 1 6 [.ref 32, .int a0, .long (((a1.toInt64) <<< (((Int8.ofInt 32).toInt32).toInt64 &&& 63)) ||| ((a2.toInt64) &&& (4294967295 : Int64))), .long (((a3.toInt64) <<< (((Int8.ofInt 32).toInt32).toInt64 &&& 63)) ||| ((a4.toInt64) &&& (4294967295 : Int64)))] h (pT "java/lang/IndexOutOfBoundsException" [] h (fun _ => True)) := by
  refine en_mk m_X11_point rfl hl (Nat.le_of_ble_eq_true rfl) ?_
  refine x_iload_n (M := M_X11_point) dX11_point_0 rfl ?_
  refine x_callSR (M := M_X11_point) (M' := M_X11_isNoSignPoint) rfl rfl dX11_point_1 m_X11_isNoSignPoint t_2309 t_2310 (q4476 hl c0 c1) rfl rfl (Nat.le_of_ble_eq_true rfl) (Nat.le_of_ble_eq_true rfl) (Nat.le_of_ble_eq_true rfl) (Nat.le_of_ble_eq_true rfl) ?_
  refine x_if_eq (M := M_X11_point) (tgt := 15) dX11_point_4 (by decide) (fun q => absurd q (by decide +kernel)) (fun _ => ?_)
  exact x_throw (M := M_X11_point) (names := en_nm) rfl dX11_point_7 dX11_point_10 dX11_point_11 dX11_point_14 (by decide +kernel) en_nm_ok (Or.inl t_748) (Or.inl t_22) (at_X11_IndexOutOfBoundsException_139) (Nat.le_of_ble_eq_true rfl) (Nat.le_of_ble_eq_true rfl) (Nat.le_of_ble_eq_true rfl) (Nat.le_of_ble_eq_true rfl) (fun n9 => ⟨rfl, (fr_tr (fr_app (List.replicate n9 none)) (fun _ h => nomatch h) fr_rf), trivial⟩)
set_option maxRecDepth 10000 in
theorem q4483 {l : Launch} {E : EE} (hl : l.stackTraces = false) {h : HP} {a0 : Int32} {a1 : Int32} {a2 : Int32} {a3 : Int32} {a4 : Int32} (c0 : ¬ (a0.toInt < 0)) (c1 : ¬ (a0.toInt < 32)) (o4479 : ob h 32 = some (.inr (14, [.ref 33, .ref 162, .ref 166, .int (0 : Int32), .int (0 : Int32), .int (0 : Int32), .ref 167, .ref 170, .ref 173, .ref 177, .ref 193, .ref 208, .ref 222, .ref 238, .ref 252, .ref 274, .ref 275, .ref 276, .int (0 : Int32)]))) : en_C l E M_L_point 7 1 6 [.ref 32, .int a0, .long (((a1.toInt64) <<< (((Int8.ofInt 32).toInt32).toInt64 &&& 63)) ||| ((a2.toInt64) &&& (4294967295 : Int64))), .long (((a3.toInt64) <<< (((Int8.ofInt 32).toInt32).toInt64 &&& 63)) ||| ((a4.toInt64) &&& (4294967295 : Int64)))] h (pF (some (.int (Int32.ofInt 1))) [] h (fun _ => True)) := by
  refine en_mkW m_L_point rfl hl (Nat.le_of_ble_eq_true rfl) ?_
  refine x_aload_n (M := M_L_point) dL_point_0 rfl ?_
  refine x_iload_n (M := M_L_point) dL_point_1 rfl ?_
  refine x_lload_n (M := M_L_point) dL_point_2 rfl ?_
  refine x_lload (M := M_L_point) dL_point_3 rfl ?_
  refine y_callVHX (M := M_L_point) (M' := M_X11_point) (i9 := 6) (nx := 13) rfl dL_point_5 m_X11_point t_2305 t_2306 t_2307 o4479 rfl (q4478 hl c0 c1) rfl rfl (Nat.le_of_ble_eq_true rfl) (Nat.le_of_ble_eq_true rfl) (Nat.le_of_ble_eq_true rfl) (Nat.le_of_ble_eq_true rfl) (en_hdm (k0 := 6) [] [(0, 8, 15, 19)] rfl (fun _ h => nomatch h) (by decide +kernel) (by decide) t_739 n_750 dL_point_11) (by decide) rfl (fun h4480 f4481 w4482 => ?_)
  refine x_iconst (M := M_L_point) dL_point_13 ?_
  exact x_iret (M := M_L_point) dL_point_14 rfl ⟨rfl, (fr_tr f4481 (fun _ h => nomatch h) fr_rf), trivial⟩ (Nat.le_of_ble_eq_true rfl) (Nat.le_of_ble_eq_true rfl)
set_option maxRecDepth 10000 in
theorem q4500 {l : Launch} {E : EE} (hl : l.stackTraces = false) {h : HP} {a0 : Int32} (c0 : ¬ (a0.toInt < 0)) (c1 : ¬ (a0.toInt < 32)) : en_C l E M_X12_isPoint 0 0 0 [.int a0] h (pR (some (.int (Int32.ofInt 0))) h) := by
  refine en_mk m_X12_isPoint rfl hl (Nat.le_of_ble_eq_true rfl) ?_
  refine x_iload_n (M := M_X12_isPoint) dX12_isPoint_0 rfl ?_
  refine x_if_lt (M := M_X12_isPoint) (tgt := 14) dX12_isPoint_1 (by decide) (fun q => absurd ((bi_lt rfl (by decide +kernel)).mp q) (by omega : ¬ (a0.toInt < 0))) (fun _ => ?_)
  refine x_iload_n (M := M_X12_isPoint) dX12_isPoint_4 rfl ?_
  refine x_bipush (M := M_X12_isPoint) dX12_isPoint_5 ?_
  refine x_icmp_ge (M := M_X12_isPoint) (tgt := 14) dX12_isPoint_7 (by decide) (fun _ => ?_) (fun q => absurd ((bi_le (by decide +kernel) rfl).mpr (by omega : (32 ≤ a0.toInt : Prop))) q)
  refine x_iconst (M := M_X12_isPoint) dX12_isPoint_14 ?_
  exact x_zret (M := M_X12_isPoint) dX12_isPoint_15 rfl (by decide) ⟨rfl, rfl⟩ (Nat.le_of_ble_eq_true rfl) (Nat.le_of_ble_eq_true rfl)
set_option maxRecDepth 10000 in
theorem q4505 {l : Launch} {E : EE} (hl : l.stackTraces = false) {h : HP} {a0 : Int32} {a1 : Int32} {a2 : Int32} {a3 : Int32} {a4 : Int32} {dg : Int32} (c0 : ¬ (a0.toInt < 0)) (c1 : ¬ (a0.toInt < 32)) (c2 : (lg_cmp ((((((a1.toInt64) <<< (((Int8.ofInt 32).toInt32).toInt64 &&& 63)) ||| ((a2.toInt64) &&& (4294967295 : Int64))).toUInt64 >>> (((Int8.ofInt 52).toInt32).toInt64.toUInt64 &&& Int64.toUInt64 63)).toInt64) &&& (2047 : Int64)) (2047 : Int64)) = 0) (o4496 : ob h 277 = some (.inr (15, (RB dg)))) : en_C l E M_X12_point 1 0 0 [.ref 277, .int a0, .long (((a1.toInt64) <<< (((Int8.ofInt 32).toInt32).toInt64 &&& 63)) ||| ((a2.toInt64) &&& (4294967295 : Int64))), .long (((a3.toInt64) <<< (((Int8.ofInt 32).toInt32).toInt64 &&& 63)) ||| ((a4.toInt64) &&& (4294967295 : Int64)))] h (pF none [277] h (fun h' => ob h' 277 = some (.inr (15, ((RB dg).set 0 (.int (Int32.ofInt 1))))) ∧ True)) := by
  refine en_mk m_X12_point rfl hl (Nat.le_of_ble_eq_true rfl) ?_
  refine x_aload_n (M := M_X12_point) dX12_point_0 rfl ?_
  refine x_iconst (M := M_X12_point) dX12_point_1 ?_
  refine y_put (M := M_X12_point) (ci := 15) (C := RX12) (T := TX12) (N := 135) (ty := tyX12) cl15 dX12_point_2 o4496 0 (by decide) t_2391 (Or.inl rfl) (Nat.le_of_ble_eq_true rfl) rfl (fun h4497 w4498 f4499 => ?_)
  refine x_lload_n (M := M_X12_point) dX12_point_5 rfl ?_
  refine x_bipush (M := M_X12_point) dX12_point_6 ?_
  refine x_lushr (M := M_X12_point) dX12_point_8 ?_
  refine x_ldc2 (M := M_X12_point) dX12_point_9 t_2994 ?_
  refine x_land (M := M_X12_point) dX12_point_12 ?_
  refine x_ldc2 (M := M_X12_point) dX12_point_13 t_2994 ?_
  refine x_lcmp (M := M_X12_point) dX12_point_16 ?_
  refine x_if_eq (M := M_X12_point) (tgt := 36) dX12_point_17 (by decide) (fun _ => ?_) (fun q => absurd c2 q)
  refine x_iconst (M := M_X12_point) dX12_point_36 ?_
  refine x_goto (M := M_X12_point) (tgt := 41) dX12_point_37 (by decide) ?_
  refine x_istore (M := M_X12_point) dX12_point_41 (Nat.le_of_ble_eq_true rfl) rfl ?_
  refine x_aload_n (M := M_X12_point) dX12_point_43 rfl ?_
  refine x_iload_n (M := M_X12_point) dX12_point_44 rfl ?_
  refine x_callSR (M := M_X12_point) (M' := M_X12_isPoint) rfl rfl dX12_point_45 m_X12_isPoint t_3154 t_3155 (q4500 hl c0 c1) rfl rfl (Nat.le_of_ble_eq_true rfl) (Nat.le_of_ble_eq_true rfl) (Nat.le_of_ble_eq_true rfl) (Nat.le_of_ble_eq_true rfl) ?_
  refine x_if_ne (M := M_X12_point) (tgt := 55) dX12_point_48 (by decide) (fun q => absurd q (by decide +kernel)) (fun _ => ?_)
  refine x_iconst (M := M_X12_point) dX12_point_51 ?_
  refine x_goto (M := M_X12_point) (tgt := 56) dX12_point_52 (by decide) ?_
  refine x_iconst (M := M_X12_point) dX12_point_56 ?_
  refine y_callVR (M := M_X12_point) (M' := M_X12_fails) rfl rfl dX12_point_57 m_X12_fails t_2805 t_2807 s_157 (q22 hl w4498) rfl rfl w4498 rfl (Nat.le_of_ble_eq_true rfl) (Nat.le_of_ble_eq_true rfl) (Nat.le_of_ble_eq_true rfl) (Nat.le_of_ble_eq_true rfl) (fun h4501 f4502 w4503 => ?_)
  obtain ⟨o4504, -⟩ := w4503
  refine x_if_ne (M := M_X12_point) (tgt := 73) dX12_point_60 (by decide) (fun _ => ?_) (fun q => absurd q (by decide +kernel))
  exact x_vret (M := M_X12_point) dX12_point_73 rfl ⟨rfl, (fr_tr f4502 (by decide) (fr_tr f4499 (by decide) fr_rf)), ⟨o4504, trivial⟩⟩ (Nat.le_of_ble_eq_true rfl) (Nat.le_of_ble_eq_true rfl)
set_option maxRecDepth 10000 in
theorem lc29_6 {l : Launch} {E : EE} (hl : l.stackTraces = false) (nm : String) {xs : Nat → Int32} (hx : E.2.2.2.2 0 = some (7, xs)) {h : HP} {a0 : Int32} {a1 : Int32} {a2 : Int32} {a3 : Int32} {a4 : Int32} {dg : Int32} (e2 : xs 2 = a0) (e3 : xs 3 = a1) (e4 : xs 4 = a2) (e5 : xs 5 = a3) (e6 : xs 6 = a4) (c0 : ¬ (a0.toInt < 0)) (c1 : ¬ (a0.toInt < 32)) (c2 : (lg_cmp ((((((a1.toInt64) <<< (((Int8.ofInt 32).toInt32).toInt64 &&& 63)) ||| ((a2.toInt64) &&& (4294967295 : Int64))).toUInt64 >>> (((Int8.ofInt 52).toInt32).toInt64.toUInt64 &&& Int64.toUInt64 63)).toInt64) &&& (2047 : Int64)) (2047 : Int64)) = 0) (o4492 : ob h 32 = some (.inr (14, [.ref 33, .ref 162, .ref 166, .int (0 : Int32), .int (0 : Int32), .int (0 : Int32), .ref 167, .ref 170, .ref 173, .ref 177, .ref 193, .ref 208, .ref 222, .ref 238, .ref 252, .ref 274, .ref 275, .ref 276, .int (0 : Int32)]))) (o4506 : ob h 277 = some (.inr (15, (RB dg)))) : XX l E (M_law nm) 1312 342628 8074320 (fun o _ => o = .inl (some (.int 1))) 2153 [some (.ref 0), some (.ref 32), some (.ref 277), some (.ref 359), some (.int (Int32.ofInt 1)), none, none, none] [] h 328 2463747 := by
  refine x_aload_n (M := (M_law nm)) dL_law_2153 rfl ?_
  refine x_aload_n (M := (M_law nm)) dL_law_2154 rfl ?_
  refine x_iload (M := (M_law nm)) dL_law_2155 rfl ?_
  refine x_iconst (M := (M_law nm)) dL_law_2157 ?_
  refine x_iadd (M := (M_law nm)) dL_law_2158 ?_
  refine x_sald (M := (M_law nm)) dL_law_2159 (by decide) hx (vp_inD (by decide +kernel)) ?_
  refine x_top (M := (M_law nm)) (y := a0) ((congrArg xs (by decide +kernel : ((Int32.ofInt 1) + (Int32.ofInt 1)).toNatClampNeg = 2)).trans e2) ?_
  refine x_aload_n (M := (M_law nm)) dL_law_2160 rfl ?_
  refine x_iload (M := (M_law nm)) dL_law_2161 rfl ?_
  refine x_iconst (M := (M_law nm)) dL_law_2163 ?_
  refine x_iadd (M := (M_law nm)) dL_law_2164 ?_
  refine x_sald (M := (M_law nm)) dL_law_2165 (by decide) hx (vp_inD (by decide +kernel)) ?_
  refine x_top (M := (M_law nm)) (y := a1) ((congrArg xs (by decide +kernel : ((Int32.ofInt 1) + (Int32.ofInt 2)).toNatClampNeg = 3)).trans e3) ?_
  refine x_i2l (M := (M_law nm)) dL_law_2166 ?_
  refine x_bipush (M := (M_law nm)) dL_law_2167 ?_
  refine x_lshl (M := (M_law nm)) dL_law_2169 ?_
  refine x_aload_n (M := (M_law nm)) dL_law_2170 rfl ?_
  refine x_iload (M := (M_law nm)) dL_law_2171 rfl ?_
  refine x_iconst (M := (M_law nm)) dL_law_2173 ?_
  refine x_iadd (M := (M_law nm)) dL_law_2174 ?_
  refine x_sald (M := (M_law nm)) dL_law_2175 (by decide) hx (vp_inD (by decide +kernel)) ?_
  refine x_top (M := (M_law nm)) (y := a2) ((congrArg xs (by decide +kernel : ((Int32.ofInt 1) + (Int32.ofInt 3)).toNatClampNeg = 4)).trans e4) ?_
  refine x_i2l (M := (M_law nm)) dL_law_2176 ?_
  refine x_ldc2 (M := (M_law nm)) dL_law_2177 t_3705 ?_
  refine x_land (M := (M_law nm)) dL_law_2180 ?_
  refine x_lor (M := (M_law nm)) dL_law_2181 ?_
  refine x_aload_n (M := (M_law nm)) dL_law_2182 rfl ?_
  refine x_iload (M := (M_law nm)) dL_law_2183 rfl ?_
  refine x_iconst (M := (M_law nm)) dL_law_2185 ?_
  refine x_iadd (M := (M_law nm)) dL_law_2186 ?_
  refine x_sald (M := (M_law nm)) dL_law_2187 (by decide) hx (vp_inD (by decide +kernel)) ?_
  refine x_top (M := (M_law nm)) (y := a3) ((congrArg xs (by decide +kernel : ((Int32.ofInt 1) + (Int32.ofInt 4)).toNatClampNeg = 5)).trans e5) ?_
  refine x_i2l (M := (M_law nm)) dL_law_2188 ?_
  refine x_bipush (M := (M_law nm)) dL_law_2189 ?_
  refine x_lshl (M := (M_law nm)) dL_law_2191 ?_
  refine x_aload_n (M := (M_law nm)) dL_law_2192 rfl ?_
  refine x_iload (M := (M_law nm)) dL_law_2193 rfl ?_
  refine x_iconst (M := (M_law nm)) dL_law_2195 ?_
  refine x_iadd (M := (M_law nm)) dL_law_2196 ?_
  refine x_sald (M := (M_law nm)) dL_law_2197 (by decide) hx (vp_inD (by decide +kernel)) ?_
  refine x_top (M := (M_law nm)) (y := a4) ((congrArg xs (by decide +kernel : ((Int32.ofInt 1) + (Int32.ofInt 5)).toNatClampNeg = 6)).trans e6) ?_
  refine x_i2l (M := (M_law nm)) dL_law_2198 ?_
  refine x_ldc2 (M := (M_law nm)) dL_law_2199 t_3705 ?_
  refine x_land (M := (M_law nm)) dL_law_2202 ?_
  refine x_lor (M := (M_law nm)) dL_law_2203 ?_
  refine y_callSW (M := (M_law nm)) (M' := M_L_point) rfl rfl dL_law_2204 m_L_point t_2302 t_2303 (q4483 hl c0 c1 o4492) rfl rfl (Nat.le_of_ble_eq_true rfl) (Nat.le_of_ble_eq_true rfl) (Nat.le_of_ble_eq_true rfl) (Nat.le_of_ble_eq_true rfl) (fun h4493 f4494 w4495 => ?_)
  refine x_istore (M := (M_law nm)) dL_law_2207 (Nat.le_of_ble_eq_true rfl) rfl ?_
  refine x_aload_n (M := (M_law nm)) dL_law_2209 rfl ?_
  refine x_aload_n (M := (M_law nm)) dL_law_2210 rfl ?_
  refine x_iload (M := (M_law nm)) dL_law_2211 rfl ?_
  refine x_iconst (M := (M_law nm)) dL_law_2213 ?_
  refine x_iadd (M := (M_law nm)) dL_law_2214 ?_
  refine x_sald (M := (M_law nm)) dL_law_2215 (by decide) hx (vp_inD (by decide +kernel)) ?_
  refine x_top (M := (M_law nm)) (y := a0) ((congrArg xs (by decide +kernel : ((Int32.ofInt 1) + (Int32.ofInt 1)).toNatClampNeg = 2)).trans e2) ?_
  refine x_aload_n (M := (M_law nm)) dL_law_2216 rfl ?_
  refine x_iload (M := (M_law nm)) dL_law_2217 rfl ?_
  refine x_iconst (M := (M_law nm)) dL_law_2219 ?_
  refine x_iadd (M := (M_law nm)) dL_law_2220 ?_
  refine x_sald (M := (M_law nm)) dL_law_2221 (by decide) hx (vp_inD (by decide +kernel)) ?_
  refine x_top (M := (M_law nm)) (y := a1) ((congrArg xs (by decide +kernel : ((Int32.ofInt 1) + (Int32.ofInt 2)).toNatClampNeg = 3)).trans e3) ?_
  refine x_i2l (M := (M_law nm)) dL_law_2222 ?_
  refine x_bipush (M := (M_law nm)) dL_law_2223 ?_
  refine x_lshl (M := (M_law nm)) dL_law_2225 ?_
  refine x_aload_n (M := (M_law nm)) dL_law_2226 rfl ?_
  refine x_iload (M := (M_law nm)) dL_law_2227 rfl ?_
  refine x_iconst (M := (M_law nm)) dL_law_2229 ?_
  refine x_iadd (M := (M_law nm)) dL_law_2230 ?_
  refine x_sald (M := (M_law nm)) dL_law_2231 (by decide) hx (vp_inD (by decide +kernel)) ?_
  refine x_top (M := (M_law nm)) (y := a2) ((congrArg xs (by decide +kernel : ((Int32.ofInt 1) + (Int32.ofInt 3)).toNatClampNeg = 4)).trans e4) ?_
  refine x_i2l (M := (M_law nm)) dL_law_2232 ?_
  refine x_ldc2 (M := (M_law nm)) dL_law_2233 t_3705 ?_
  refine x_land (M := (M_law nm)) dL_law_2236 ?_
  refine x_lor (M := (M_law nm)) dL_law_2237 ?_
  refine x_aload_n (M := (M_law nm)) dL_law_2238 rfl ?_
  refine x_iload (M := (M_law nm)) dL_law_2239 rfl ?_
  refine x_iconst (M := (M_law nm)) dL_law_2241 ?_
  refine x_iadd (M := (M_law nm)) dL_law_2242 ?_
  refine x_sald (M := (M_law nm)) dL_law_2243 (by decide) hx (vp_inD (by decide +kernel)) ?_
  refine x_top (M := (M_law nm)) (y := a3) ((congrArg xs (by decide +kernel : ((Int32.ofInt 1) + (Int32.ofInt 4)).toNatClampNeg = 5)).trans e5) ?_
  refine x_i2l (M := (M_law nm)) dL_law_2244 ?_
  refine x_bipush (M := (M_law nm)) dL_law_2245 ?_
  refine x_lshl (M := (M_law nm)) dL_law_2247 ?_
  refine x_aload_n (M := (M_law nm)) dL_law_2248 rfl ?_
  refine x_iload (M := (M_law nm)) dL_law_2249 rfl ?_
  refine x_iconst (M := (M_law nm)) dL_law_2251 ?_
  refine x_iadd (M := (M_law nm)) dL_law_2252 ?_
  refine x_sald (M := (M_law nm)) dL_law_2253 (by decide) hx (vp_inD (by decide +kernel)) ?_
  refine x_top (M := (M_law nm)) (y := a4) ((congrArg xs (by decide +kernel : ((Int32.ofInt 1) + (Int32.ofInt 5)).toNatClampNeg = 6)).trans e6) ?_
  refine x_i2l (M := (M_law nm)) dL_law_2254 ?_
  refine x_ldc2 (M := (M_law nm)) dL_law_2255 t_3705 ?_
  refine x_land (M := (M_law nm)) dL_law_2258 ?_
  refine x_lor (M := (M_law nm)) dL_law_2259 ?_
  have o4507 := (f4494 277 _ (by decide) o4506)
  refine y_callVR (M := (M_law nm)) (M' := M_X12_point) rfl rfl dL_law_2260 m_X12_point t_3150 t_3151 t_3152 (q4505 hl c0 c1 c2 o4507) rfl rfl o4507 rfl (Nat.le_of_ble_eq_true rfl) (Nat.le_of_ble_eq_true rfl) (Nat.le_of_ble_eq_true rfl) (Nat.le_of_ble_eq_true rfl) (fun h4508 f4509 w4510 => ?_)
  obtain ⟨o4511, -⟩ := w4510
  refine x_aload_n (M := (M_law nm)) dL_law_2263 rfl ?_
  refine x_callVR (M := (M_law nm)) (M' := M_X12_thrown) rfl rfl dL_law_2264 m_X12_thrown t_2797 t_2798 t_2799 (q35 hl o4511) rfl rfl o4511 rfl (Nat.le_of_ble_eq_true rfl) (Nat.le_of_ble_eq_true rfl) (Nat.le_of_ble_eq_true rfl) (Nat.le_of_ble_eq_true rfl) ?_
  refine x_iload (M := (M_law nm)) dL_law_2267 rfl ?_
  refine x_icmp_eq (M := (M_law nm)) (tgt := 2274) dL_law_2269 (by decide) (fun _ => ?_) (fun q => absurd q (by decide +kernel))
  refine x_goto (M := (M_law nm)) (tgt := 2449) dL_law_2274 (by decide) ?_
  refine x_iinc (M := (M_law nm)) dL_law_2449 rfl (Nat.le_of_ble_eq_true rfl) rfl ?_
  refine x_lvs (M := (M_law nm)) (lv' := [some (.ref 0), some (.ref 32), some (.ref 277), some (.ref 359), some (.int (Int32.ofInt 7)), some (.int (Int32.ofInt 1)), none, none]) (by rw [(by decide +kernel : (Int32.ofInt 1) + Int32.ofInt 6 = (Int32.ofInt 7))] <;> rfl) ?_
  refine x_goto (M := (M_law nm)) (tgt := 33) dL_law_2452 (by decide) ?_
  refine x_iload (M := (M_law nm)) dL_law_33 rfl ?_
  refine x_aload_n (M := (M_law nm)) dL_law_35 rfl ?_
  refine x_slen (M := (M_law nm)) dL_law_36 (by decide) hx ?_
  refine x_bipush (M := (M_law nm)) dL_law_37 ?_
  refine x_isub (M := (M_law nm)) dL_law_39 ?_
  refine x_icmp_gt (M := (M_law nm)) (tgt := 2455) dL_law_40 (by decide) (fun _ => ?_) (fun q => absurd q (by decide +kernel))
  refine x_iconst (M := (M_law nm)) dL_law_2455 ?_
  exact x_zret (M := (M_law nm)) dL_law_2456 rfl (by decide) rfl (Nat.le_of_ble_eq_true rfl) (Nat.le_of_ble_eq_true rfl)
set_option maxRecDepth 10000 in
theorem q4532 {l : Launch} {E : EE} (hl : l.stackTraces = false) {h : HP} {a0 : Int32} {a1 : Int32} {a2 : Int32} {a3 : Int32} {a4 : Int32} {dg : Int32} (c0 : ¬ (a0.toInt < 0)) (c1 : ¬ (a0.toInt < 32)) (c2 : ¬ ((lg_cmp ((((((a1.toInt64) <<< (((Int8.ofInt 32).toInt32).toInt64 &&& 63)) ||| ((a2.toInt64) &&& (4294967295 : Int64))).toUInt64 >>> (((Int8.ofInt 52).toInt32).toInt64.toUInt64 &&& Int64.toUInt64 63)).toInt64) &&& (2047 : Int64)) (2047 : Int64)) = 0)) (c3 : (lg_cmp ((((((a3.toInt64) <<< (((Int8.ofInt 32).toInt32).toInt64 &&& 63)) ||| ((a4.toInt64) &&& (4294967295 : Int64))).toUInt64 >>> (((Int8.ofInt 52).toInt32).toInt64.toUInt64 &&& Int64.toUInt64 63)).toInt64) &&& (2047 : Int64)) (2047 : Int64)) = 0) (o4524 : ob h 277 = some (.inr (15, (RB dg)))) : en_C l E M_X12_point 1 0 0 [.ref 277, .int a0, .long (((a1.toInt64) <<< (((Int8.ofInt 32).toInt32).toInt64 &&& 63)) ||| ((a2.toInt64) &&& (4294967295 : Int64))), .long (((a3.toInt64) <<< (((Int8.ofInt 32).toInt32).toInt64 &&& 63)) ||| ((a4.toInt64) &&& (4294967295 : Int64)))] h (pF none [277] h (fun h' => ob h' 277 = some (.inr (15, ((RB dg).set 0 (.int (Int32.ofInt 1))))) ∧ True)) := by
  refine en_mk m_X12_point rfl hl (Nat.le_of_ble_eq_true rfl) ?_
  refine x_aload_n (M := M_X12_point) dX12_point_0 rfl ?_
  refine x_iconst (M := M_X12_point) dX12_point_1 ?_
  refine y_put (M := M_X12_point) (ci := 15) (C := RX12) (T := TX12) (N := 135) (ty := tyX12) cl15 dX12_point_2 o4524 0 (by decide) t_2391 (Or.inl rfl) (Nat.le_of_ble_eq_true rfl) rfl (fun h4525 w4526 f4527 => ?_)
  refine x_lload_n (M := M_X12_point) dX12_point_5 rfl ?_
  refine x_bipush (M := M_X12_point) dX12_point_6 ?_
  refine x_lushr (M := M_X12_point) dX12_point_8 ?_
  refine x_ldc2 (M := M_X12_point) dX12_point_9 t_2994 ?_
  refine x_land (M := M_X12_point) dX12_point_12 ?_
  refine x_ldc2 (M := M_X12_point) dX12_point_13 t_2994 ?_
  refine x_lcmp (M := M_X12_point) dX12_point_16 ?_
  refine x_if_eq (M := M_X12_point) (tgt := 36) dX12_point_17 (by decide) (fun q => absurd q c2) (fun _ => ?_)
  refine x_lload (M := M_X12_point) dX12_point_20 rfl ?_
  refine x_bipush (M := M_X12_point) dX12_point_22 ?_
  refine x_lushr (M := M_X12_point) dX12_point_24 ?_
  refine x_ldc2 (M := M_X12_point) dX12_point_25 t_2994 ?_
  refine x_land (M := M_X12_point) dX12_point_28 ?_
  refine x_ldc2 (M := M_X12_point) dX12_point_29 t_2994 ?_
  refine x_lcmp (M := M_X12_point) dX12_point_32 ?_
  refine x_if_ne (M := M_X12_point) (tgt := 40) dX12_point_33 (by decide) (fun q => absurd c3 q) (fun _ => ?_)
  refine x_iconst (M := M_X12_point) dX12_point_36 ?_
  refine x_goto (M := M_X12_point) (tgt := 41) dX12_point_37 (by decide) ?_
  refine x_istore (M := M_X12_point) dX12_point_41 (Nat.le_of_ble_eq_true rfl) rfl ?_
  refine x_aload_n (M := M_X12_point) dX12_point_43 rfl ?_
  refine x_iload_n (M := M_X12_point) dX12_point_44 rfl ?_
  refine x_callSR (M := M_X12_point) (M' := M_X12_isPoint) rfl rfl dX12_point_45 m_X12_isPoint t_3154 t_3155 (q4500 hl c0 c1) rfl rfl (Nat.le_of_ble_eq_true rfl) (Nat.le_of_ble_eq_true rfl) (Nat.le_of_ble_eq_true rfl) (Nat.le_of_ble_eq_true rfl) ?_
  refine x_if_ne (M := M_X12_point) (tgt := 55) dX12_point_48 (by decide) (fun q => absurd q (by decide +kernel)) (fun _ => ?_)
  refine x_iconst (M := M_X12_point) dX12_point_51 ?_
  refine x_goto (M := M_X12_point) (tgt := 56) dX12_point_52 (by decide) ?_
  refine x_iconst (M := M_X12_point) dX12_point_56 ?_
  refine y_callVR (M := M_X12_point) (M' := M_X12_fails) rfl rfl dX12_point_57 m_X12_fails t_2805 t_2807 s_157 (q22 hl w4526) rfl rfl w4526 rfl (Nat.le_of_ble_eq_true rfl) (Nat.le_of_ble_eq_true rfl) (Nat.le_of_ble_eq_true rfl) (Nat.le_of_ble_eq_true rfl) (fun h4528 f4529 w4530 => ?_)
  obtain ⟨o4531, -⟩ := w4530
  refine x_if_ne (M := M_X12_point) (tgt := 73) dX12_point_60 (by decide) (fun _ => ?_) (fun q => absurd q (by decide +kernel))
  exact x_vret (M := M_X12_point) dX12_point_73 rfl ⟨rfl, (fr_tr f4529 (by decide) (fr_tr f4527 (by decide) fr_rf)), ⟨o4531, trivial⟩⟩ (Nat.le_of_ble_eq_true rfl) (Nat.le_of_ble_eq_true rfl)
set_option maxRecDepth 10000 in
theorem lc29_7 {l : Launch} {E : EE} (hl : l.stackTraces = false) (nm : String) {xs : Nat → Int32} (hx : E.2.2.2.2 0 = some (7, xs)) {h : HP} {a0 : Int32} {a1 : Int32} {a2 : Int32} {a3 : Int32} {a4 : Int32} {dg : Int32} (e2 : xs 2 = a0) (e3 : xs 3 = a1) (e4 : xs 4 = a2) (e5 : xs 5 = a3) (e6 : xs 6 = a4) (c0 : ¬ (a0.toInt < 0)) (c1 : ¬ (a0.toInt < 32)) (c2 : ¬ ((lg_cmp ((((((a1.toInt64) <<< (((Int8.ofInt 32).toInt32).toInt64 &&& 63)) ||| ((a2.toInt64) &&& (4294967295 : Int64))).toUInt64 >>> (((Int8.ofInt 52).toInt32).toInt64.toUInt64 &&& Int64.toUInt64 63)).toInt64) &&& (2047 : Int64)) (2047 : Int64)) = 0)) (c3 : (lg_cmp ((((((a3.toInt64) <<< (((Int8.ofInt 32).toInt32).toInt64 &&& 63)) ||| ((a4.toInt64) &&& (4294967295 : Int64))).toUInt64 >>> (((Int8.ofInt 52).toInt32).toInt64.toUInt64 &&& Int64.toUInt64 63)).toInt64) &&& (2047 : Int64)) (2047 : Int64)) = 0) (o4520 : ob h 32 = some (.inr (14, [.ref 33, .ref 162, .ref 166, .int (0 : Int32), .int (0 : Int32), .int (0 : Int32), .ref 167, .ref 170, .ref 173, .ref 177, .ref 193, .ref 208, .ref 222, .ref 238, .ref 252, .ref 274, .ref 275, .ref 276, .int (0 : Int32)]))) (o4533 : ob h 277 = some (.inr (15, (RB dg)))) : XX l E (M_law nm) 1312 342628 8074320 (fun o _ => o = .inl (some (.int 1))) 2153 [some (.ref 0), some (.ref 32), some (.ref 277), some (.ref 359), some (.int (Int32.ofInt 1)), none, none, none] [] h 328 2463747 := by
  refine x_aload_n (M := (M_law nm)) dL_law_2153 rfl ?_
  refine x_aload_n (M := (M_law nm)) dL_law_2154 rfl ?_
  refine x_iload (M := (M_law nm)) dL_law_2155 rfl ?_
  refine x_iconst (M := (M_law nm)) dL_law_2157 ?_
  refine x_iadd (M := (M_law nm)) dL_law_2158 ?_
  refine x_sald (M := (M_law nm)) dL_law_2159 (by decide) hx (vp_inD (by decide +kernel)) ?_
  refine x_top (M := (M_law nm)) (y := a0) ((congrArg xs (by decide +kernel : ((Int32.ofInt 1) + (Int32.ofInt 1)).toNatClampNeg = 2)).trans e2) ?_
  refine x_aload_n (M := (M_law nm)) dL_law_2160 rfl ?_
  refine x_iload (M := (M_law nm)) dL_law_2161 rfl ?_
  refine x_iconst (M := (M_law nm)) dL_law_2163 ?_
  refine x_iadd (M := (M_law nm)) dL_law_2164 ?_
  refine x_sald (M := (M_law nm)) dL_law_2165 (by decide) hx (vp_inD (by decide +kernel)) ?_
  refine x_top (M := (M_law nm)) (y := a1) ((congrArg xs (by decide +kernel : ((Int32.ofInt 1) + (Int32.ofInt 2)).toNatClampNeg = 3)).trans e3) ?_
  refine x_i2l (M := (M_law nm)) dL_law_2166 ?_
  refine x_bipush (M := (M_law nm)) dL_law_2167 ?_
  refine x_lshl (M := (M_law nm)) dL_law_2169 ?_
  refine x_aload_n (M := (M_law nm)) dL_law_2170 rfl ?_
  refine x_iload (M := (M_law nm)) dL_law_2171 rfl ?_
  refine x_iconst (M := (M_law nm)) dL_law_2173 ?_
  refine x_iadd (M := (M_law nm)) dL_law_2174 ?_
  refine x_sald (M := (M_law nm)) dL_law_2175 (by decide) hx (vp_inD (by decide +kernel)) ?_
  refine x_top (M := (M_law nm)) (y := a2) ((congrArg xs (by decide +kernel : ((Int32.ofInt 1) + (Int32.ofInt 3)).toNatClampNeg = 4)).trans e4) ?_
  refine x_i2l (M := (M_law nm)) dL_law_2176 ?_
  refine x_ldc2 (M := (M_law nm)) dL_law_2177 t_3705 ?_
  refine x_land (M := (M_law nm)) dL_law_2180 ?_
  refine x_lor (M := (M_law nm)) dL_law_2181 ?_
  refine x_aload_n (M := (M_law nm)) dL_law_2182 rfl ?_
  refine x_iload (M := (M_law nm)) dL_law_2183 rfl ?_
  refine x_iconst (M := (M_law nm)) dL_law_2185 ?_
  refine x_iadd (M := (M_law nm)) dL_law_2186 ?_
  refine x_sald (M := (M_law nm)) dL_law_2187 (by decide) hx (vp_inD (by decide +kernel)) ?_
  refine x_top (M := (M_law nm)) (y := a3) ((congrArg xs (by decide +kernel : ((Int32.ofInt 1) + (Int32.ofInt 4)).toNatClampNeg = 5)).trans e5) ?_
  refine x_i2l (M := (M_law nm)) dL_law_2188 ?_
  refine x_bipush (M := (M_law nm)) dL_law_2189 ?_
  refine x_lshl (M := (M_law nm)) dL_law_2191 ?_
  refine x_aload_n (M := (M_law nm)) dL_law_2192 rfl ?_
  refine x_iload (M := (M_law nm)) dL_law_2193 rfl ?_
  refine x_iconst (M := (M_law nm)) dL_law_2195 ?_
  refine x_iadd (M := (M_law nm)) dL_law_2196 ?_
  refine x_sald (M := (M_law nm)) dL_law_2197 (by decide) hx (vp_inD (by decide +kernel)) ?_
  refine x_top (M := (M_law nm)) (y := a4) ((congrArg xs (by decide +kernel : ((Int32.ofInt 1) + (Int32.ofInt 5)).toNatClampNeg = 6)).trans e6) ?_
  refine x_i2l (M := (M_law nm)) dL_law_2198 ?_
  refine x_ldc2 (M := (M_law nm)) dL_law_2199 t_3705 ?_
  refine x_land (M := (M_law nm)) dL_law_2202 ?_
  refine x_lor (M := (M_law nm)) dL_law_2203 ?_
  refine y_callSW (M := (M_law nm)) (M' := M_L_point) rfl rfl dL_law_2204 m_L_point t_2302 t_2303 (q4483 hl c0 c1 o4520) rfl rfl (Nat.le_of_ble_eq_true rfl) (Nat.le_of_ble_eq_true rfl) (Nat.le_of_ble_eq_true rfl) (Nat.le_of_ble_eq_true rfl) (fun h4521 f4522 w4523 => ?_)
  refine x_istore (M := (M_law nm)) dL_law_2207 (Nat.le_of_ble_eq_true rfl) rfl ?_
  refine x_aload_n (M := (M_law nm)) dL_law_2209 rfl ?_
  refine x_aload_n (M := (M_law nm)) dL_law_2210 rfl ?_
  refine x_iload (M := (M_law nm)) dL_law_2211 rfl ?_
  refine x_iconst (M := (M_law nm)) dL_law_2213 ?_
  refine x_iadd (M := (M_law nm)) dL_law_2214 ?_
  refine x_sald (M := (M_law nm)) dL_law_2215 (by decide) hx (vp_inD (by decide +kernel)) ?_
  refine x_top (M := (M_law nm)) (y := a0) ((congrArg xs (by decide +kernel : ((Int32.ofInt 1) + (Int32.ofInt 1)).toNatClampNeg = 2)).trans e2) ?_
  refine x_aload_n (M := (M_law nm)) dL_law_2216 rfl ?_
  refine x_iload (M := (M_law nm)) dL_law_2217 rfl ?_
  refine x_iconst (M := (M_law nm)) dL_law_2219 ?_
  refine x_iadd (M := (M_law nm)) dL_law_2220 ?_
  refine x_sald (M := (M_law nm)) dL_law_2221 (by decide) hx (vp_inD (by decide +kernel)) ?_
  refine x_top (M := (M_law nm)) (y := a1) ((congrArg xs (by decide +kernel : ((Int32.ofInt 1) + (Int32.ofInt 2)).toNatClampNeg = 3)).trans e3) ?_
  refine x_i2l (M := (M_law nm)) dL_law_2222 ?_
  refine x_bipush (M := (M_law nm)) dL_law_2223 ?_
  refine x_lshl (M := (M_law nm)) dL_law_2225 ?_
  refine x_aload_n (M := (M_law nm)) dL_law_2226 rfl ?_
  refine x_iload (M := (M_law nm)) dL_law_2227 rfl ?_
  refine x_iconst (M := (M_law nm)) dL_law_2229 ?_
  refine x_iadd (M := (M_law nm)) dL_law_2230 ?_
  refine x_sald (M := (M_law nm)) dL_law_2231 (by decide) hx (vp_inD (by decide +kernel)) ?_
  refine x_top (M := (M_law nm)) (y := a2) ((congrArg xs (by decide +kernel : ((Int32.ofInt 1) + (Int32.ofInt 3)).toNatClampNeg = 4)).trans e4) ?_
  refine x_i2l (M := (M_law nm)) dL_law_2232 ?_
  refine x_ldc2 (M := (M_law nm)) dL_law_2233 t_3705 ?_
  refine x_land (M := (M_law nm)) dL_law_2236 ?_
  refine x_lor (M := (M_law nm)) dL_law_2237 ?_
  refine x_aload_n (M := (M_law nm)) dL_law_2238 rfl ?_
  refine x_iload (M := (M_law nm)) dL_law_2239 rfl ?_
  refine x_iconst (M := (M_law nm)) dL_law_2241 ?_
  refine x_iadd (M := (M_law nm)) dL_law_2242 ?_
  refine x_sald (M := (M_law nm)) dL_law_2243 (by decide) hx (vp_inD (by decide +kernel)) ?_
  refine x_top (M := (M_law nm)) (y := a3) ((congrArg xs (by decide +kernel : ((Int32.ofInt 1) + (Int32.ofInt 4)).toNatClampNeg = 5)).trans e5) ?_
  refine x_i2l (M := (M_law nm)) dL_law_2244 ?_
  refine x_bipush (M := (M_law nm)) dL_law_2245 ?_
  refine x_lshl (M := (M_law nm)) dL_law_2247 ?_
  refine x_aload_n (M := (M_law nm)) dL_law_2248 rfl ?_
  refine x_iload (M := (M_law nm)) dL_law_2249 rfl ?_
  refine x_iconst (M := (M_law nm)) dL_law_2251 ?_
  refine x_iadd (M := (M_law nm)) dL_law_2252 ?_
  refine x_sald (M := (M_law nm)) dL_law_2253 (by decide) hx (vp_inD (by decide +kernel)) ?_
  refine x_top (M := (M_law nm)) (y := a4) ((congrArg xs (by decide +kernel : ((Int32.ofInt 1) + (Int32.ofInt 5)).toNatClampNeg = 6)).trans e6) ?_
  refine x_i2l (M := (M_law nm)) dL_law_2254 ?_
  refine x_ldc2 (M := (M_law nm)) dL_law_2255 t_3705 ?_
  refine x_land (M := (M_law nm)) dL_law_2258 ?_
  refine x_lor (M := (M_law nm)) dL_law_2259 ?_
  have o4534 := (f4522 277 _ (by decide) o4533)
  refine y_callVR (M := (M_law nm)) (M' := M_X12_point) rfl rfl dL_law_2260 m_X12_point t_3150 t_3151 t_3152 (q4532 hl c0 c1 c2 c3 o4534) rfl rfl o4534 rfl (Nat.le_of_ble_eq_true rfl) (Nat.le_of_ble_eq_true rfl) (Nat.le_of_ble_eq_true rfl) (Nat.le_of_ble_eq_true rfl) (fun h4535 f4536 w4537 => ?_)
  obtain ⟨o4538, -⟩ := w4537
  refine x_aload_n (M := (M_law nm)) dL_law_2263 rfl ?_
  refine x_callVR (M := (M_law nm)) (M' := M_X12_thrown) rfl rfl dL_law_2264 m_X12_thrown t_2797 t_2798 t_2799 (q35 hl o4538) rfl rfl o4538 rfl (Nat.le_of_ble_eq_true rfl) (Nat.le_of_ble_eq_true rfl) (Nat.le_of_ble_eq_true rfl) (Nat.le_of_ble_eq_true rfl) ?_
  refine x_iload (M := (M_law nm)) dL_law_2267 rfl ?_
  refine x_icmp_eq (M := (M_law nm)) (tgt := 2274) dL_law_2269 (by decide) (fun _ => ?_) (fun q => absurd q (by decide +kernel))
  refine x_goto (M := (M_law nm)) (tgt := 2449) dL_law_2274 (by decide) ?_
  refine x_iinc (M := (M_law nm)) dL_law_2449 rfl (Nat.le_of_ble_eq_true rfl) rfl ?_
  refine x_lvs (M := (M_law nm)) (lv' := [some (.ref 0), some (.ref 32), some (.ref 277), some (.ref 359), some (.int (Int32.ofInt 7)), some (.int (Int32.ofInt 1)), none, none]) (by rw [(by decide +kernel : (Int32.ofInt 1) + Int32.ofInt 6 = (Int32.ofInt 7))] <;> rfl) ?_
  refine x_goto (M := (M_law nm)) (tgt := 33) dL_law_2452 (by decide) ?_
  refine x_iload (M := (M_law nm)) dL_law_33 rfl ?_
  refine x_aload_n (M := (M_law nm)) dL_law_35 rfl ?_
  refine x_slen (M := (M_law nm)) dL_law_36 (by decide) hx ?_
  refine x_bipush (M := (M_law nm)) dL_law_37 ?_
  refine x_isub (M := (M_law nm)) dL_law_39 ?_
  refine x_icmp_gt (M := (M_law nm)) (tgt := 2455) dL_law_40 (by decide) (fun _ => ?_) (fun q => absurd q (by decide +kernel))
  refine x_iconst (M := (M_law nm)) dL_law_2455 ?_
  exact x_zret (M := (M_law nm)) dL_law_2456 rfl (by decide) rfl (Nat.le_of_ble_eq_true rfl) (Nat.le_of_ble_eq_true rfl)
set_option maxRecDepth 10000 in
theorem q4551 {l : Launch} {E : EE} (hl : l.stackTraces = false) {h : HP} {a0 : Int32} {a1 : Int32} {a2 : Int32} {a3 : Int32} {a4 : Int32} {dg : Int32} (c0 : ¬ (a0.toInt < 0)) (c1 : ¬ (a0.toInt < 32)) (c2 : ¬ ((lg_cmp ((((((a1.toInt64) <<< (((Int8.ofInt 32).toInt32).toInt64 &&& 63)) ||| ((a2.toInt64) &&& (4294967295 : Int64))).toUInt64 >>> (((Int8.ofInt 52).toInt32).toInt64.toUInt64 &&& Int64.toUInt64 63)).toInt64) &&& (2047 : Int64)) (2047 : Int64)) = 0)) (c3 : ¬ ((lg_cmp ((((((a3.toInt64) <<< (((Int8.ofInt 32).toInt32).toInt64 &&& 63)) ||| ((a4.toInt64) &&& (4294967295 : Int64))).toUInt64 >>> (((Int8.ofInt 52).toInt32).toInt64.toUInt64 &&& Int64.toUInt64 63)).toInt64) &&& (2047 : Int64)) (2047 : Int64)) = 0)) (o4543 : ob h 277 = some (.inr (15, (RB dg)))) : en_C l E M_X12_point 1 0 0 [.ref 277, .int a0, .long (((a1.toInt64) <<< (((Int8.ofInt 32).toInt32).toInt64 &&& 63)) ||| ((a2.toInt64) &&& (4294967295 : Int64))), .long (((a3.toInt64) <<< (((Int8.ofInt 32).toInt32).toInt64 &&& 63)) ||| ((a4.toInt64) &&& (4294967295 : Int64)))] h (pF none [277] h (fun h' => ob h' 277 = some (.inr (15, ((RB dg).set 0 (.int (Int32.ofInt 1))))) ∧ True)) := by
  refine en_mk m_X12_point rfl hl (Nat.le_of_ble_eq_true rfl) ?_
  refine x_aload_n (M := M_X12_point) dX12_point_0 rfl ?_
  refine x_iconst (M := M_X12_point) dX12_point_1 ?_
  refine y_put (M := M_X12_point) (ci := 15) (C := RX12) (T := TX12) (N := 135) (ty := tyX12) cl15 dX12_point_2 o4543 0 (by decide) t_2391 (Or.inl rfl) (Nat.le_of_ble_eq_true rfl) rfl (fun h4544 w4545 f4546 => ?_)
  refine x_lload_n (M := M_X12_point) dX12_point_5 rfl ?_
  refine x_bipush (M := M_X12_point) dX12_point_6 ?_
  refine x_lushr (M := M_X12_point) dX12_point_8 ?_
  refine x_ldc2 (M := M_X12_point) dX12_point_9 t_2994 ?_
  refine x_land (M := M_X12_point) dX12_point_12 ?_
  refine x_ldc2 (M := M_X12_point) dX12_point_13 t_2994 ?_
  refine x_lcmp (M := M_X12_point) dX12_point_16 ?_
  refine x_if_eq (M := M_X12_point) (tgt := 36) dX12_point_17 (by decide) (fun q => absurd q c2) (fun _ => ?_)
  refine x_lload (M := M_X12_point) dX12_point_20 rfl ?_
  refine x_bipush (M := M_X12_point) dX12_point_22 ?_
  refine x_lushr (M := M_X12_point) dX12_point_24 ?_
  refine x_ldc2 (M := M_X12_point) dX12_point_25 t_2994 ?_
  refine x_land (M := M_X12_point) dX12_point_28 ?_
  refine x_ldc2 (M := M_X12_point) dX12_point_29 t_2994 ?_
  refine x_lcmp (M := M_X12_point) dX12_point_32 ?_
  refine x_if_ne (M := M_X12_point) (tgt := 40) dX12_point_33 (by decide) (fun _ => ?_) (fun q => absurd q c3)
  refine x_iconst (M := M_X12_point) dX12_point_40 ?_
  refine x_istore (M := M_X12_point) dX12_point_41 (Nat.le_of_ble_eq_true rfl) rfl ?_
  refine x_aload_n (M := M_X12_point) dX12_point_43 rfl ?_
  refine x_iload_n (M := M_X12_point) dX12_point_44 rfl ?_
  refine x_callSR (M := M_X12_point) (M' := M_X12_isPoint) rfl rfl dX12_point_45 m_X12_isPoint t_3154 t_3155 (q4500 hl c0 c1) rfl rfl (Nat.le_of_ble_eq_true rfl) (Nat.le_of_ble_eq_true rfl) (Nat.le_of_ble_eq_true rfl) (Nat.le_of_ble_eq_true rfl) ?_
  refine x_if_ne (M := M_X12_point) (tgt := 55) dX12_point_48 (by decide) (fun q => absurd q (by decide +kernel)) (fun _ => ?_)
  refine x_iconst (M := M_X12_point) dX12_point_51 ?_
  refine x_goto (M := M_X12_point) (tgt := 56) dX12_point_52 (by decide) ?_
  refine x_iconst (M := M_X12_point) dX12_point_56 ?_
  refine y_callVR (M := M_X12_point) (M' := M_X12_fails) rfl rfl dX12_point_57 m_X12_fails t_2805 t_2807 s_157 (q22 hl w4545) rfl rfl w4545 rfl (Nat.le_of_ble_eq_true rfl) (Nat.le_of_ble_eq_true rfl) (Nat.le_of_ble_eq_true rfl) (Nat.le_of_ble_eq_true rfl) (fun h4547 f4548 w4549 => ?_)
  obtain ⟨o4550, -⟩ := w4549
  refine x_if_ne (M := M_X12_point) (tgt := 73) dX12_point_60 (by decide) (fun _ => ?_) (fun q => absurd q (by decide +kernel))
  exact x_vret (M := M_X12_point) dX12_point_73 rfl ⟨rfl, (fr_tr f4548 (by decide) (fr_tr f4546 (by decide) fr_rf)), ⟨o4550, trivial⟩⟩ (Nat.le_of_ble_eq_true rfl) (Nat.le_of_ble_eq_true rfl)
set_option maxRecDepth 10000 in
theorem lc29_8 {l : Launch} {E : EE} (hl : l.stackTraces = false) (nm : String) {xs : Nat → Int32} (hx : E.2.2.2.2 0 = some (7, xs)) {h : HP} {a0 : Int32} {a1 : Int32} {a2 : Int32} {a3 : Int32} {a4 : Int32} {dg : Int32} (e2 : xs 2 = a0) (e3 : xs 3 = a1) (e4 : xs 4 = a2) (e5 : xs 5 = a3) (e6 : xs 6 = a4) (c0 : ¬ (a0.toInt < 0)) (c1 : ¬ (a0.toInt < 32)) (c2 : ¬ ((lg_cmp ((((((a1.toInt64) <<< (((Int8.ofInt 32).toInt32).toInt64 &&& 63)) ||| ((a2.toInt64) &&& (4294967295 : Int64))).toUInt64 >>> (((Int8.ofInt 52).toInt32).toInt64.toUInt64 &&& Int64.toUInt64 63)).toInt64) &&& (2047 : Int64)) (2047 : Int64)) = 0)) (c3 : ¬ ((lg_cmp ((((((a3.toInt64) <<< (((Int8.ofInt 32).toInt32).toInt64 &&& 63)) ||| ((a4.toInt64) &&& (4294967295 : Int64))).toUInt64 >>> (((Int8.ofInt 52).toInt32).toInt64.toUInt64 &&& Int64.toUInt64 63)).toInt64) &&& (2047 : Int64)) (2047 : Int64)) = 0)) (o4539 : ob h 32 = some (.inr (14, [.ref 33, .ref 162, .ref 166, .int (0 : Int32), .int (0 : Int32), .int (0 : Int32), .ref 167, .ref 170, .ref 173, .ref 177, .ref 193, .ref 208, .ref 222, .ref 238, .ref 252, .ref 274, .ref 275, .ref 276, .int (0 : Int32)]))) (o4552 : ob h 277 = some (.inr (15, (RB dg)))) : XX l E (M_law nm) 1312 342628 8074320 (fun o _ => o = .inl (some (.int 1))) 2153 [some (.ref 0), some (.ref 32), some (.ref 277), some (.ref 359), some (.int (Int32.ofInt 1)), none, none, none] [] h 328 2463747 := by
  refine x_aload_n (M := (M_law nm)) dL_law_2153 rfl ?_
  refine x_aload_n (M := (M_law nm)) dL_law_2154 rfl ?_
  refine x_iload (M := (M_law nm)) dL_law_2155 rfl ?_
  refine x_iconst (M := (M_law nm)) dL_law_2157 ?_
  refine x_iadd (M := (M_law nm)) dL_law_2158 ?_
  refine x_sald (M := (M_law nm)) dL_law_2159 (by decide) hx (vp_inD (by decide +kernel)) ?_
  refine x_top (M := (M_law nm)) (y := a0) ((congrArg xs (by decide +kernel : ((Int32.ofInt 1) + (Int32.ofInt 1)).toNatClampNeg = 2)).trans e2) ?_
  refine x_aload_n (M := (M_law nm)) dL_law_2160 rfl ?_
  refine x_iload (M := (M_law nm)) dL_law_2161 rfl ?_
  refine x_iconst (M := (M_law nm)) dL_law_2163 ?_
  refine x_iadd (M := (M_law nm)) dL_law_2164 ?_
  refine x_sald (M := (M_law nm)) dL_law_2165 (by decide) hx (vp_inD (by decide +kernel)) ?_
  refine x_top (M := (M_law nm)) (y := a1) ((congrArg xs (by decide +kernel : ((Int32.ofInt 1) + (Int32.ofInt 2)).toNatClampNeg = 3)).trans e3) ?_
  refine x_i2l (M := (M_law nm)) dL_law_2166 ?_
  refine x_bipush (M := (M_law nm)) dL_law_2167 ?_
  refine x_lshl (M := (M_law nm)) dL_law_2169 ?_
  refine x_aload_n (M := (M_law nm)) dL_law_2170 rfl ?_
  refine x_iload (M := (M_law nm)) dL_law_2171 rfl ?_
  refine x_iconst (M := (M_law nm)) dL_law_2173 ?_
  refine x_iadd (M := (M_law nm)) dL_law_2174 ?_
  refine x_sald (M := (M_law nm)) dL_law_2175 (by decide) hx (vp_inD (by decide +kernel)) ?_
  refine x_top (M := (M_law nm)) (y := a2) ((congrArg xs (by decide +kernel : ((Int32.ofInt 1) + (Int32.ofInt 3)).toNatClampNeg = 4)).trans e4) ?_
  refine x_i2l (M := (M_law nm)) dL_law_2176 ?_
  refine x_ldc2 (M := (M_law nm)) dL_law_2177 t_3705 ?_
  refine x_land (M := (M_law nm)) dL_law_2180 ?_
  refine x_lor (M := (M_law nm)) dL_law_2181 ?_
  refine x_aload_n (M := (M_law nm)) dL_law_2182 rfl ?_
  refine x_iload (M := (M_law nm)) dL_law_2183 rfl ?_
  refine x_iconst (M := (M_law nm)) dL_law_2185 ?_
  refine x_iadd (M := (M_law nm)) dL_law_2186 ?_
  refine x_sald (M := (M_law nm)) dL_law_2187 (by decide) hx (vp_inD (by decide +kernel)) ?_
  refine x_top (M := (M_law nm)) (y := a3) ((congrArg xs (by decide +kernel : ((Int32.ofInt 1) + (Int32.ofInt 4)).toNatClampNeg = 5)).trans e5) ?_
  refine x_i2l (M := (M_law nm)) dL_law_2188 ?_
  refine x_bipush (M := (M_law nm)) dL_law_2189 ?_
  refine x_lshl (M := (M_law nm)) dL_law_2191 ?_
  refine x_aload_n (M := (M_law nm)) dL_law_2192 rfl ?_
  refine x_iload (M := (M_law nm)) dL_law_2193 rfl ?_
  refine x_iconst (M := (M_law nm)) dL_law_2195 ?_
  refine x_iadd (M := (M_law nm)) dL_law_2196 ?_
  refine x_sald (M := (M_law nm)) dL_law_2197 (by decide) hx (vp_inD (by decide +kernel)) ?_
  refine x_top (M := (M_law nm)) (y := a4) ((congrArg xs (by decide +kernel : ((Int32.ofInt 1) + (Int32.ofInt 5)).toNatClampNeg = 6)).trans e6) ?_
  refine x_i2l (M := (M_law nm)) dL_law_2198 ?_
  refine x_ldc2 (M := (M_law nm)) dL_law_2199 t_3705 ?_
  refine x_land (M := (M_law nm)) dL_law_2202 ?_
  refine x_lor (M := (M_law nm)) dL_law_2203 ?_
  refine y_callSW (M := (M_law nm)) (M' := M_L_point) rfl rfl dL_law_2204 m_L_point t_2302 t_2303 (q4483 hl c0 c1 o4539) rfl rfl (Nat.le_of_ble_eq_true rfl) (Nat.le_of_ble_eq_true rfl) (Nat.le_of_ble_eq_true rfl) (Nat.le_of_ble_eq_true rfl) (fun h4540 f4541 w4542 => ?_)
  refine x_istore (M := (M_law nm)) dL_law_2207 (Nat.le_of_ble_eq_true rfl) rfl ?_
  refine x_aload_n (M := (M_law nm)) dL_law_2209 rfl ?_
  refine x_aload_n (M := (M_law nm)) dL_law_2210 rfl ?_
  refine x_iload (M := (M_law nm)) dL_law_2211 rfl ?_
  refine x_iconst (M := (M_law nm)) dL_law_2213 ?_
  refine x_iadd (M := (M_law nm)) dL_law_2214 ?_
  refine x_sald (M := (M_law nm)) dL_law_2215 (by decide) hx (vp_inD (by decide +kernel)) ?_
  refine x_top (M := (M_law nm)) (y := a0) ((congrArg xs (by decide +kernel : ((Int32.ofInt 1) + (Int32.ofInt 1)).toNatClampNeg = 2)).trans e2) ?_
  refine x_aload_n (M := (M_law nm)) dL_law_2216 rfl ?_
  refine x_iload (M := (M_law nm)) dL_law_2217 rfl ?_
  refine x_iconst (M := (M_law nm)) dL_law_2219 ?_
  refine x_iadd (M := (M_law nm)) dL_law_2220 ?_
  refine x_sald (M := (M_law nm)) dL_law_2221 (by decide) hx (vp_inD (by decide +kernel)) ?_
  refine x_top (M := (M_law nm)) (y := a1) ((congrArg xs (by decide +kernel : ((Int32.ofInt 1) + (Int32.ofInt 2)).toNatClampNeg = 3)).trans e3) ?_
  refine x_i2l (M := (M_law nm)) dL_law_2222 ?_
  refine x_bipush (M := (M_law nm)) dL_law_2223 ?_
  refine x_lshl (M := (M_law nm)) dL_law_2225 ?_
  refine x_aload_n (M := (M_law nm)) dL_law_2226 rfl ?_
  refine x_iload (M := (M_law nm)) dL_law_2227 rfl ?_
  refine x_iconst (M := (M_law nm)) dL_law_2229 ?_
  refine x_iadd (M := (M_law nm)) dL_law_2230 ?_
  refine x_sald (M := (M_law nm)) dL_law_2231 (by decide) hx (vp_inD (by decide +kernel)) ?_
  refine x_top (M := (M_law nm)) (y := a2) ((congrArg xs (by decide +kernel : ((Int32.ofInt 1) + (Int32.ofInt 3)).toNatClampNeg = 4)).trans e4) ?_
  refine x_i2l (M := (M_law nm)) dL_law_2232 ?_
  refine x_ldc2 (M := (M_law nm)) dL_law_2233 t_3705 ?_
  refine x_land (M := (M_law nm)) dL_law_2236 ?_
  refine x_lor (M := (M_law nm)) dL_law_2237 ?_
  refine x_aload_n (M := (M_law nm)) dL_law_2238 rfl ?_
  refine x_iload (M := (M_law nm)) dL_law_2239 rfl ?_
  refine x_iconst (M := (M_law nm)) dL_law_2241 ?_
  refine x_iadd (M := (M_law nm)) dL_law_2242 ?_
  refine x_sald (M := (M_law nm)) dL_law_2243 (by decide) hx (vp_inD (by decide +kernel)) ?_
  refine x_top (M := (M_law nm)) (y := a3) ((congrArg xs (by decide +kernel : ((Int32.ofInt 1) + (Int32.ofInt 4)).toNatClampNeg = 5)).trans e5) ?_
  refine x_i2l (M := (M_law nm)) dL_law_2244 ?_
  refine x_bipush (M := (M_law nm)) dL_law_2245 ?_
  refine x_lshl (M := (M_law nm)) dL_law_2247 ?_
  refine x_aload_n (M := (M_law nm)) dL_law_2248 rfl ?_
  refine x_iload (M := (M_law nm)) dL_law_2249 rfl ?_
  refine x_iconst (M := (M_law nm)) dL_law_2251 ?_
  refine x_iadd (M := (M_law nm)) dL_law_2252 ?_
  refine x_sald (M := (M_law nm)) dL_law_2253 (by decide) hx (vp_inD (by decide +kernel)) ?_
  refine x_top (M := (M_law nm)) (y := a4) ((congrArg xs (by decide +kernel : ((Int32.ofInt 1) + (Int32.ofInt 5)).toNatClampNeg = 6)).trans e6) ?_
  refine x_i2l (M := (M_law nm)) dL_law_2254 ?_
  refine x_ldc2 (M := (M_law nm)) dL_law_2255 t_3705 ?_
  refine x_land (M := (M_law nm)) dL_law_2258 ?_
  refine x_lor (M := (M_law nm)) dL_law_2259 ?_
  have o4553 := (f4541 277 _ (by decide) o4552)
  refine y_callVR (M := (M_law nm)) (M' := M_X12_point) rfl rfl dL_law_2260 m_X12_point t_3150 t_3151 t_3152 (q4551 hl c0 c1 c2 c3 o4553) rfl rfl o4553 rfl (Nat.le_of_ble_eq_true rfl) (Nat.le_of_ble_eq_true rfl) (Nat.le_of_ble_eq_true rfl) (Nat.le_of_ble_eq_true rfl) (fun h4554 f4555 w4556 => ?_)
  obtain ⟨o4557, -⟩ := w4556
  refine x_aload_n (M := (M_law nm)) dL_law_2263 rfl ?_
  refine x_callVR (M := (M_law nm)) (M' := M_X12_thrown) rfl rfl dL_law_2264 m_X12_thrown t_2797 t_2798 t_2799 (q35 hl o4557) rfl rfl o4557 rfl (Nat.le_of_ble_eq_true rfl) (Nat.le_of_ble_eq_true rfl) (Nat.le_of_ble_eq_true rfl) (Nat.le_of_ble_eq_true rfl) ?_
  refine x_iload (M := (M_law nm)) dL_law_2267 rfl ?_
  refine x_icmp_eq (M := (M_law nm)) (tgt := 2274) dL_law_2269 (by decide) (fun _ => ?_) (fun q => absurd q (by decide +kernel))
  refine x_goto (M := (M_law nm)) (tgt := 2449) dL_law_2274 (by decide) ?_
  refine x_iinc (M := (M_law nm)) dL_law_2449 rfl (Nat.le_of_ble_eq_true rfl) rfl ?_
  refine x_lvs (M := (M_law nm)) (lv' := [some (.ref 0), some (.ref 32), some (.ref 277), some (.ref 359), some (.int (Int32.ofInt 7)), some (.int (Int32.ofInt 1)), none, none]) (by rw [(by decide +kernel : (Int32.ofInt 1) + Int32.ofInt 6 = (Int32.ofInt 7))] <;> rfl) ?_
  refine x_goto (M := (M_law nm)) (tgt := 33) dL_law_2452 (by decide) ?_
  refine x_iload (M := (M_law nm)) dL_law_33 rfl ?_
  refine x_aload_n (M := (M_law nm)) dL_law_35 rfl ?_
  refine x_slen (M := (M_law nm)) dL_law_36 (by decide) hx ?_
  refine x_bipush (M := (M_law nm)) dL_law_37 ?_
  refine x_isub (M := (M_law nm)) dL_law_39 ?_
  refine x_icmp_gt (M := (M_law nm)) (tgt := 2455) dL_law_40 (by decide) (fun _ => ?_) (fun q => absurd q (by decide +kernel))
  refine x_iconst (M := (M_law nm)) dL_law_2455 ?_
  exact x_zret (M := (M_law nm)) dL_law_2456 rfl (by decide) rfl (Nat.le_of_ble_eq_true rfl) (Nat.le_of_ble_eq_true rfl)
theorem lop29 {l : Launch} {E : EE} (hl : l.stackTraces = false) (nm : String) {xs : Nat → Int32} (hx : E.2.2.2.2 0 = some (7, xs)) (dg : Int32) : XX l E (M_law nm) 1312 342628 8074320 (fun o _ => o = .inl (some (.int 1))) 2153 [some (.ref 0), some (.ref 32), some (.ref 277), some (.ref 359), some (.int (Int32.ofInt 1)), none, none, none] [] (HH dg) 328 2463747 := by
  obtain ⟨a0, e2⟩ : ∃ a : Int32, xs 2 = a := ⟨_, rfl⟩
  obtain ⟨a1, e3⟩ : ∃ a : Int32, xs 3 = a := ⟨_, rfl⟩
  obtain ⟨a2, e4⟩ : ∃ a : Int32, xs 4 = a := ⟨_, rfl⟩
  obtain ⟨a3, e5⟩ : ∃ a : Int32, xs 5 = a := ⟨_, rfl⟩
  obtain ⟨a4, e6⟩ : ∃ a : Int32, xs 6 = a := ⟨_, rfl⟩
  by_cases c0 : a0.toInt < 0
  · by_cases c1 : (lg_cmp ((((((a1.toInt64) <<< (((Int8.ofInt 32).toInt32).toInt64 &&& 63)) ||| ((a2.toInt64) &&& (4294967295 : Int64))).toUInt64 >>> (((Int8.ofInt 52).toInt32).toInt64.toUInt64 &&& Int64.toUInt64 63)).toInt64) &&& (2047 : Int64)) (2047 : Int64)) = 0
    · exact lc29_0 hl nm hx e2 e3 e4 e5 e6 c0 c1 (o_32 dg) (o_277b dg)
    · by_cases c2 : (lg_cmp ((((((a3.toInt64) <<< (((Int8.ofInt 32).toInt32).toInt64 &&& 63)) ||| ((a4.toInt64) &&& (4294967295 : Int64))).toUInt64 >>> (((Int8.ofInt 52).toInt32).toInt64.toUInt64 &&& Int64.toUInt64 63)).toInt64) &&& (2047 : Int64)) (2047 : Int64)) = 0
      · exact lc29_1 hl nm hx e2 e3 e4 e5 e6 c0 c1 c2 (o_32 dg) (o_277b dg)
      · exact lc29_2 hl nm hx e2 e3 e4 e5 e6 c0 c1 c2 (o_32 dg) (o_277b dg)
  · by_cases c1 : a0.toInt < 32
    · by_cases c2 : (lg_cmp ((((((a1.toInt64) <<< (((Int8.ofInt 32).toInt32).toInt64 &&& 63)) ||| ((a2.toInt64) &&& (4294967295 : Int64))).toUInt64 >>> (((Int8.ofInt 52).toInt32).toInt64.toUInt64 &&& Int64.toUInt64 63)).toInt64) &&& (2047 : Int64)) (2047 : Int64)) = 0
      · exact lc29_3 hl nm hx e2 e3 e4 e5 e6 c0 c1 c2 (o_32 dg) (o_277b dg)
      · by_cases c3 : (lg_cmp ((((((a3.toInt64) <<< (((Int8.ofInt 32).toInt32).toInt64 &&& 63)) ||| ((a4.toInt64) &&& (4294967295 : Int64))).toUInt64 >>> (((Int8.ofInt 52).toInt32).toInt64.toUInt64 &&& Int64.toUInt64 63)).toInt64) &&& (2047 : Int64)) (2047 : Int64)) = 0
        · exact lc29_4 hl nm hx e2 e3 e4 e5 e6 c0 c1 c2 c3 (o_32 dg) (o_277b dg)
        · exact lc29_5 hl nm hx e2 e3 e4 e5 e6 c0 c1 c2 c3 (o_32 dg) (o_252 dg) (o_253 dg) (o_254 dg) (o_277b dg) (oMR (dg := dg) (k := 19) rfl) (oMR (dg := dg) (k := 20) rfl)
    · by_cases c2 : (lg_cmp ((((((a1.toInt64) <<< (((Int8.ofInt 32).toInt32).toInt64 &&& 63)) ||| ((a2.toInt64) &&& (4294967295 : Int64))).toUInt64 >>> (((Int8.ofInt 52).toInt32).toInt64.toUInt64 &&& Int64.toUInt64 63)).toInt64) &&& (2047 : Int64)) (2047 : Int64)) = 0
      · exact lc29_6 hl nm hx e2 e3 e4 e5 e6 c0 c1 c2 (o_32 dg) (o_277b dg)
      · by_cases c3 : (lg_cmp ((((((a3.toInt64) <<< (((Int8.ofInt 32).toInt32).toInt64 &&& 63)) ||| ((a4.toInt64) &&& (4294967295 : Int64))).toUInt64 >>> (((Int8.ofInt 52).toInt32).toInt64.toUInt64 &&& Int64.toUInt64 63)).toInt64) &&& (2047 : Int64)) (2047 : Int64)) = 0
        · exact lc29_7 hl nm hx e2 e3 e4 e5 e6 c0 c1 c2 c3 (o_32 dg) (o_277b dg)
        · exact lc29_8 hl nm hx e2 e3 e4 e5 e6 c0 c1 c2 c3 (o_32 dg) (o_277b dg)
set_option maxRecDepth 10000 in
theorem q4562 {l : Launch} {E : EE} (hl : l.stackTraces = false) {h : HP} {a0 : Int32} {a1 : Int32} (c0 : a0.toInt < 0) (o4558 : ob h 32 = some (.inr (14, [.ref 33, .ref 162, .ref 166, .int (0 : Int32), .int (0 : Int32), .int (0 : Int32), .ref 167, .ref 170, .ref 173, .ref 177, .ref 193, .ref 208, .ref 222, .ref 238, .ref 252, .ref 274, .ref 275, .ref 276, .int (0 : Int32)]))) : en_C l E M_X11_count 7 1 6 [.ref 32, .int a0, .int a1] h (pT "java/lang/IndexOutOfBoundsException" [] h (fun _ => True)) := by
  refine en_mk m_X11_count rfl hl (Nat.le_of_ble_eq_true rfl) ?_
  refine x_aload_n (M := M_X11_count) dX11_count_0 rfl ?_
  refine x_iload_n (M := M_X11_count) dX11_count_1 rfl ?_
  exact y_callVX (M := M_X11_count) (M' := M_X11_slotNumbered) rfl rfl dX11_count_2 m_X11_slotNumbered t_744 t_746 s_2 (q392 hl c0) rfl rfl o4558 rfl (Nat.le_of_ble_eq_true rfl) (Nat.le_of_ble_eq_true rfl) (Nat.le_of_ble_eq_true rfl) (Nat.le_of_ble_eq_true rfl) (fun h4559 f4560 w4561 => ⟨rfl, (fr_tr f4560 (fun _ h => nomatch h) fr_rf), trivial⟩)
set_option maxRecDepth 10000 in
theorem q4567 {l : Launch} {E : EE} (hl : l.stackTraces = false) {h : HP} {a0 : Int32} {a1 : Int32} (c0 : a0.toInt < 0) (o4563 : ob h 32 = some (.inr (14, [.ref 33, .ref 162, .ref 166, .int (0 : Int32), .int (0 : Int32), .int (0 : Int32), .ref 167, .ref 170, .ref 173, .ref 177, .ref 193, .ref 208, .ref 222, .ref 238, .ref 252, .ref 274, .ref 275, .ref 276, .int (0 : Int32)]))) : en_C l E M_L_count 8 1 6 [.ref 32, .int a0, .int a1, .ref 359] h (pF (some (.int (Int32.ofInt 1))) [] h (fun _ => True)) := by
  refine en_mkW m_L_count rfl hl (Nat.le_of_ble_eq_true rfl) ?_
  refine x_aload_n (M := M_L_count) dL_count_0 rfl ?_
  refine x_iconst (M := M_L_count) dL_count_1 ?_
  refine x_aload_n (M := M_L_count) dL_count_2 rfl ?_
  refine x_iload_n (M := M_L_count) dL_count_3 rfl ?_
  refine x_iload_n (M := M_L_count) dL_count_4 rfl ?_
  refine y_callVHX (M := M_L_count) (M' := M_X11_count) (i9 := 4) (nx := 15) rfl dL_count_5 m_X11_count t_2294 t_2295 t_2296 o4563 rfl (q4562 hl c0 o4563) rfl rfl (Nat.le_of_ble_eq_true rfl) (Nat.le_of_ble_eq_true rfl) (Nat.le_of_ble_eq_true rfl) (Nat.le_of_ble_eq_true rfl) (en_hdm (k0 := 4) [] [] rfl (fun _ h => nomatch h) (by decide +kernel) (by decide) t_739 n_750 dL_count_13) (by decide) rfl (fun h4564 f4565 w4566 => ?_)
  refine x_iconst (M := M_L_count) dL_count_15 ?_
  exact x_iret (M := M_L_count) dL_count_16 rfl ⟨rfl, (fr_tr f4565 (fun _ h => nomatch h) fr_rf), trivial⟩ (Nat.le_of_ble_eq_true rfl) (Nat.le_of_ble_eq_true rfl)
set_option maxRecDepth 10000 in
theorem q4580 {l : Launch} {E : EE} (hl : l.stackTraces = false) {h : HP} {a0 : Int32} {a1 : Int32} {dg : Int32} (c0 : a0.toInt < 0) (o4572 : ob h 277 = some (.inr (15, (RB dg)))) : en_C l E M_X12_count 1 0 0 [.ref 277, .int a0, .int a1] h (pF (some (.int (Int32.ofInt 0))) [277] h (fun h' => ob h' 277 = some (.inr (15, ((RB dg).set 0 (.int (Int32.ofInt 1))))) ∧ True)) := by
  refine en_mk m_X12_count rfl hl (Nat.le_of_ble_eq_true rfl) ?_
  refine x_aload_n (M := M_X12_count) dX12_count_0 rfl ?_
  refine x_iconst (M := M_X12_count) dX12_count_1 ?_
  refine y_put (M := M_X12_count) (ci := 15) (C := RX12) (T := TX12) (N := 135) (ty := tyX12) cl15 dX12_count_2 o4572 0 (by decide) t_2391 (Or.inl rfl) (Nat.le_of_ble_eq_true rfl) rfl (fun h4573 w4574 f4575 => ?_)
  refine x_aload_n (M := M_X12_count) dX12_count_5 rfl ?_
  refine x_iload_n (M := M_X12_count) dX12_count_6 rfl ?_
  refine x_callSR (M := M_X12_count) (M' := M_X12_isSlot) rfl rfl dX12_count_7 m_X12_isSlot t_2841 t_2842 (q411 hl c0) rfl rfl (Nat.le_of_ble_eq_true rfl) (Nat.le_of_ble_eq_true rfl) (Nat.le_of_ble_eq_true rfl) (Nat.le_of_ble_eq_true rfl) ?_
  refine x_if_eq (M := M_X12_count) (tgt := 25) dX12_count_10 (by decide) (fun _ => ?_) (fun q => absurd q (by decide +kernel))
  refine x_iconst (M := M_X12_count) dX12_count_25 ?_
  refine x_goto (M := M_X12_count) (tgt := 30) dX12_count_26 (by decide) ?_
  refine x_iconst (M := M_X12_count) dX12_count_30 ?_
  refine y_callVR (M := M_X12_count) (M' := M_X12_fails) rfl rfl dX12_count_31 m_X12_fails t_2805 t_2807 s_157 (q22 hl w4574) rfl rfl w4574 rfl (Nat.le_of_ble_eq_true rfl) (Nat.le_of_ble_eq_true rfl) (Nat.le_of_ble_eq_true rfl) (Nat.le_of_ble_eq_true rfl) (fun h4576 f4577 w4578 => ?_)
  obtain ⟨o4579, -⟩ := w4578
  refine x_if_eq (M := M_X12_count) (tgt := 39) dX12_count_34 (by decide) (fun q => absurd q (by decide +kernel)) (fun _ => ?_)
  refine x_iconst (M := M_X12_count) dX12_count_37 ?_
  exact x_iret (M := M_X12_count) dX12_count_38 rfl ⟨rfl, (fr_tr f4577 (by decide) (fr_tr f4575 (by decide) fr_rf)), ⟨o4579, trivial⟩⟩ (Nat.le_of_ble_eq_true rfl) (Nat.le_of_ble_eq_true rfl)
set_option maxRecDepth 10000 in
theorem lc28_0 {l : Launch} {E : EE} (hl : l.stackTraces = false) (nm : String) {xs : Nat → Int32} (hx : E.2.2.2.2 0 = some (7, xs)) {h : HP} {a0 : Int32} {a1 : Int32} {dg : Int32} (e2 : xs 2 = a0) (e3 : xs 3 = a1) (c0 : a0.toInt < 0) (o4568 : ob h 32 = some (.inr (14, [.ref 33, .ref 162, .ref 166, .int (0 : Int32), .int (0 : Int32), .int (0 : Int32), .ref 167, .ref 170, .ref 173, .ref 177, .ref 193, .ref 208, .ref 222, .ref 238, .ref 252, .ref 274, .ref 275, .ref 276, .int (0 : Int32)]))) (o4581 : ob h 277 = some (.inr (15, (RB dg)))) : XX l E (M_law nm) 1312 342628 8074320 (fun o _ => o = .inl (some (.int 1))) 2085 [some (.ref 0), some (.ref 32), some (.ref 277), some (.ref 359), some (.int (Int32.ofInt 1)), none, none, none] [] h 328 2463747 := by
  refine x_aload_n (M := (M_law nm)) dL_law_2085 rfl ?_
  refine x_aload_n (M := (M_law nm)) dL_law_2086 rfl ?_
  refine x_iload (M := (M_law nm)) dL_law_2087 rfl ?_
  refine x_iconst (M := (M_law nm)) dL_law_2089 ?_
  refine x_iadd (M := (M_law nm)) dL_law_2090 ?_
  refine x_sald (M := (M_law nm)) dL_law_2091 (by decide) hx (vp_inD (by decide +kernel)) ?_
  refine x_top (M := (M_law nm)) (y := a0) ((congrArg xs (by decide +kernel : ((Int32.ofInt 1) + (Int32.ofInt 1)).toNatClampNeg = 2)).trans e2) ?_
  refine x_aload_n (M := (M_law nm)) dL_law_2092 rfl ?_
  refine x_iload (M := (M_law nm)) dL_law_2093 rfl ?_
  refine x_iconst (M := (M_law nm)) dL_law_2095 ?_
  refine x_iadd (M := (M_law nm)) dL_law_2096 ?_
  refine x_sald (M := (M_law nm)) dL_law_2097 (by decide) hx (vp_inD (by decide +kernel)) ?_
  refine x_top (M := (M_law nm)) (y := a1) ((congrArg xs (by decide +kernel : ((Int32.ofInt 1) + (Int32.ofInt 2)).toNatClampNeg = 3)).trans e3) ?_
  refine x_aload_n (M := (M_law nm)) dL_law_2098 rfl ?_
  refine y_callSW (M := (M_law nm)) (M' := M_L_count) rfl rfl dL_law_2099 m_L_count t_2291 t_2292 (q4567 hl c0 o4568) rfl rfl (Nat.le_of_ble_eq_true rfl) (Nat.le_of_ble_eq_true rfl) (Nat.le_of_ble_eq_true rfl) (Nat.le_of_ble_eq_true rfl) (fun h4569 f4570 w4571 => ?_)
  refine x_istore (M := (M_law nm)) dL_law_2102 (Nat.le_of_ble_eq_true rfl) rfl ?_
  refine x_aload_n (M := (M_law nm)) dL_law_2104 rfl ?_
  refine x_aload_n (M := (M_law nm)) dL_law_2105 rfl ?_
  refine x_iload (M := (M_law nm)) dL_law_2106 rfl ?_
  refine x_iconst (M := (M_law nm)) dL_law_2108 ?_
  refine x_iadd (M := (M_law nm)) dL_law_2109 ?_
  refine x_sald (M := (M_law nm)) dL_law_2110 (by decide) hx (vp_inD (by decide +kernel)) ?_
  refine x_top (M := (M_law nm)) (y := a0) ((congrArg xs (by decide +kernel : ((Int32.ofInt 1) + (Int32.ofInt 1)).toNatClampNeg = 2)).trans e2) ?_
  refine x_aload_n (M := (M_law nm)) dL_law_2111 rfl ?_
  refine x_iload (M := (M_law nm)) dL_law_2112 rfl ?_
  refine x_iconst (M := (M_law nm)) dL_law_2114 ?_
  refine x_iadd (M := (M_law nm)) dL_law_2115 ?_
  refine x_sald (M := (M_law nm)) dL_law_2116 (by decide) hx (vp_inD (by decide +kernel)) ?_
  refine x_top (M := (M_law nm)) (y := a1) ((congrArg xs (by decide +kernel : ((Int32.ofInt 1) + (Int32.ofInt 2)).toNatClampNeg = 3)).trans e3) ?_
  have o4582 := (f4570 277 _ (by decide) o4581)
  refine y_callVR (M := (M_law nm)) (M' := M_X12_count) rfl rfl dL_law_2117 m_X12_count t_3114 t_3115 t_3116 (q4580 hl c0 o4582) rfl rfl o4582 rfl (Nat.le_of_ble_eq_true rfl) (Nat.le_of_ble_eq_true rfl) (Nat.le_of_ble_eq_true rfl) (Nat.le_of_ble_eq_true rfl) (fun h4583 f4584 w4585 => ?_)
  obtain ⟨o4586, -⟩ := w4585
  refine x_istore (M := (M_law nm)) dL_law_2120 (Nat.le_of_ble_eq_true rfl) rfl ?_
  refine x_aload_n (M := (M_law nm)) dL_law_2122 rfl ?_
  refine x_callVR (M := (M_law nm)) (M' := M_X12_thrown) rfl rfl dL_law_2123 m_X12_thrown t_2797 t_2798 t_2799 (q35 hl o4586) rfl rfl o4586 rfl (Nat.le_of_ble_eq_true rfl) (Nat.le_of_ble_eq_true rfl) (Nat.le_of_ble_eq_true rfl) (Nat.le_of_ble_eq_true rfl) ?_
  refine x_iload (M := (M_law nm)) dL_law_2126 rfl ?_
  refine x_icmp_eq (M := (M_law nm)) (tgt := 2133) dL_law_2128 (by decide) (fun _ => ?_) (fun q => absurd q (by decide +kernel))
  refine x_iload (M := (M_law nm)) dL_law_2133 rfl ?_
  refine x_if_ne (M := (M_law nm)) (tgt := 2150) dL_law_2135 (by decide) (fun _ => ?_) (fun q => absurd q (by decide +kernel))
  refine x_goto (M := (M_law nm)) (tgt := 2449) dL_law_2150 (by decide) ?_
  refine x_iinc (M := (M_law nm)) dL_law_2449 rfl (Nat.le_of_ble_eq_true rfl) rfl ?_
  refine x_lvs (M := (M_law nm)) (lv' := [some (.ref 0), some (.ref 32), some (.ref 277), some (.ref 359), some (.int (Int32.ofInt 7)), some (.int (Int32.ofInt 1)), some (.int (Int32.ofInt 0)), none]) (by rw [(by decide +kernel : (Int32.ofInt 1) + Int32.ofInt 6 = (Int32.ofInt 7))] <;> rfl) ?_
  refine x_goto (M := (M_law nm)) (tgt := 33) dL_law_2452 (by decide) ?_
  refine x_iload (M := (M_law nm)) dL_law_33 rfl ?_
  refine x_aload_n (M := (M_law nm)) dL_law_35 rfl ?_
  refine x_slen (M := (M_law nm)) dL_law_36 (by decide) hx ?_
  refine x_bipush (M := (M_law nm)) dL_law_37 ?_
  refine x_isub (M := (M_law nm)) dL_law_39 ?_
  refine x_icmp_gt (M := (M_law nm)) (tgt := 2455) dL_law_40 (by decide) (fun _ => ?_) (fun q => absurd q (by decide +kernel))
  refine x_iconst (M := (M_law nm)) dL_law_2455 ?_
  exact x_zret (M := (M_law nm)) dL_law_2456 rfl (by decide) rfl (Nat.le_of_ble_eq_true rfl) (Nat.le_of_ble_eq_true rfl)
set_option maxRecDepth 10000 in
theorem q4592 {l : Launch} {E : EE} (hl : l.stackTraces = false) {h : HP} {a0 : Int32} {a1 : Int32} (c0 : ¬ (a0.toInt < 0)) (c1 : a0.toInt < 32) (c2 : a1.toInt < 0) (o4589 : ob h 32 = some (.inr (14, [.ref 33, .ref 162, .ref 166, .int (0 : Int32), .int (0 : Int32), .int (0 : Int32), .ref 167, .ref 170, .ref 173, .ref 177, .ref 193, .ref 208, .ref 222, .ref 238, .ref 252, .ref 274, .ref 275, .ref 276, .int (0 : Int32)]))) (o4590 : ob h 33 = some (.inl (4, 32, .inr (.inr (.inr (.inr (shf 1 32))))))) : en_C l E M_X11_count 6 1 6 [.ref 32, .int a0, .int a1] h (pT "java/lang/IndexOutOfBoundsException" [] h (fun _ => True)) := by
  refine en_mk m_X11_count rfl hl (Nat.le_of_ble_eq_true rfl) ?_
  refine x_aload_n (M := M_X11_count) dX11_count_0 rfl ?_
  refine x_iload_n (M := M_X11_count) dX11_count_1 rfl ?_
  refine x_callVR (M := M_X11_count) (M' := M_X11_slotNumbered) rfl rfl dX11_count_2 m_X11_slotNumbered t_744 t_746 s_2 (q425 hl c0 c1 o4589 o4590) rfl rfl o4589 rfl (Nat.le_of_ble_eq_true rfl) (Nat.le_of_ble_eq_true rfl) (Nat.le_of_ble_eq_true rfl) (Nat.le_of_ble_eq_true rfl) ?_
  refine x_astore_n (M := M_X11_count) dX11_count_5 (Nat.le_of_ble_eq_true rfl) rfl ?_
  refine x_iload_n (M := M_X11_count) dX11_count_6 rfl ?_
  refine x_tabOut (M := M_X11_count) (tgt := 77) dX11_count_7 (by have e9 : a1.toInt = a1.toInt := rfl; omega) (by decide) ?_
  exact x_throw (M := M_X11_count) (names := en_nm) rfl dX11_count_77 dX11_count_80 dX11_count_81 dX11_count_84 (by decide +kernel) en_nm_ok (Or.inl t_748) (Or.inl t_22) (at_X11_IndexOutOfBoundsException_139) (Nat.le_of_ble_eq_true rfl) (Nat.le_of_ble_eq_true rfl) (Nat.le_of_ble_eq_true rfl) (Nat.le_of_ble_eq_true rfl) (fun n9 => ⟨rfl, (fr_tr (fr_app (List.replicate n9 none)) (fun _ h => nomatch h) fr_rf), trivial⟩)
set_option maxRecDepth 10000 in
theorem q4598 {l : Launch} {E : EE} (hl : l.stackTraces = false) {h : HP} {a0 : Int32} {a1 : Int32} (c0 : ¬ (a0.toInt < 0)) (c1 : a0.toInt < 32) (c2 : a1.toInt < 0) (o4593 : ob h 32 = some (.inr (14, [.ref 33, .ref 162, .ref 166, .int (0 : Int32), .int (0 : Int32), .int (0 : Int32), .ref 167, .ref 170, .ref 173, .ref 177, .ref 193, .ref 208, .ref 222, .ref 238, .ref 252, .ref 274, .ref 275, .ref 276, .int (0 : Int32)]))) (o4594 : ob h 33 = some (.inl (4, 32, .inr (.inr (.inr (.inr (shf 1 32))))))) : en_C l E M_L_count 7 1 6 [.ref 32, .int a0, .int a1, .ref 359] h (pF (some (.int (Int32.ofInt 1))) [] h (fun _ => True)) := by
  refine en_mkW m_L_count rfl hl (Nat.le_of_ble_eq_true rfl) ?_
  refine x_aload_n (M := M_L_count) dL_count_0 rfl ?_
  refine x_iconst (M := M_L_count) dL_count_1 ?_
  refine x_aload_n (M := M_L_count) dL_count_2 rfl ?_
  refine x_iload_n (M := M_L_count) dL_count_3 rfl ?_
  refine x_iload_n (M := M_L_count) dL_count_4 rfl ?_
  refine y_callVHX (M := M_L_count) (M' := M_X11_count) (i9 := 4) (nx := 15) rfl dL_count_5 m_X11_count t_2294 t_2295 t_2296 o4593 rfl (q4592 hl c0 c1 c2 o4593 o4594) rfl rfl (Nat.le_of_ble_eq_true rfl) (Nat.le_of_ble_eq_true rfl) (Nat.le_of_ble_eq_true rfl) (Nat.le_of_ble_eq_true rfl) (en_hdm (k0 := 4) [] [] rfl (fun _ h => nomatch h) (by decide +kernel) (by decide) t_739 n_750 dL_count_13) (by decide) rfl (fun h4595 f4596 w4597 => ?_)
  refine x_iconst (M := M_L_count) dL_count_15 ?_
  exact x_iret (M := M_L_count) dL_count_16 rfl ⟨rfl, (fr_tr f4596 (fun _ h => nomatch h) fr_rf), trivial⟩ (Nat.le_of_ble_eq_true rfl) (Nat.le_of_ble_eq_true rfl)
set_option maxRecDepth 10000 in
theorem q4608 {l : Launch} {E : EE} (hl : l.stackTraces = false) {h : HP} {a1 : Int32} (c0 : a1.toInt < 0) : en_C l E M_X12_in 0 0 0 [.long (a1.toInt64), .long (Int64.ofInt 0), .long (Int64.ofInt 5)] h (pR (some (.int (Int32.ofInt 0))) h) := by
  refine en_mk m_X12_in rfl hl (Nat.le_of_ble_eq_true rfl) ?_
  refine x_lload_n (M := M_X12_in) dX12_in_0 rfl ?_
  refine x_lload_n (M := M_X12_in) dX12_in_1 rfl ?_
  refine x_lcmp (M := M_X12_in) dX12_in_2 ?_
  refine x_if_lt (M := M_X12_in) (tgt := 17) dX12_in_3 (by decide) (fun _ => ?_) (fun q => absurd ((bc_lt (i_i2l rfl) (by decide +kernel)).mpr (by omega : (a1.toInt < 0 : Prop))) q)
  refine x_iconst (M := M_X12_in) dX12_in_17 ?_
  exact x_zret (M := M_X12_in) dX12_in_18 rfl (by decide) ⟨rfl, rfl⟩ (Nat.le_of_ble_eq_true rfl) (Nat.le_of_ble_eq_true rfl)
set_option maxRecDepth 10000 in
theorem q4613 {l : Launch} {E : EE} (hl : l.stackTraces = false) {h : HP} {a0 : Int32} {a1 : Int32} {dg : Int32} (c0 : ¬ (a0.toInt < 0)) (c1 : a0.toInt < 32) (c2 : a1.toInt < 0) (o4604 : ob h 277 = some (.inr (15, (RB dg)))) : en_C l E M_X12_count 1 0 0 [.ref 277, .int a0, .int a1] h (pF (some (.int (Int32.ofInt 0))) [277] h (fun h' => ob h' 277 = some (.inr (15, ((RB dg).set 0 (.int (Int32.ofInt 1))))) ∧ True)) := by
  refine en_mk m_X12_count rfl hl (Nat.le_of_ble_eq_true rfl) ?_
  refine x_aload_n (M := M_X12_count) dX12_count_0 rfl ?_
  refine x_iconst (M := M_X12_count) dX12_count_1 ?_
  refine y_put (M := M_X12_count) (ci := 15) (C := RX12) (T := TX12) (N := 135) (ty := tyX12) cl15 dX12_count_2 o4604 0 (by decide) t_2391 (Or.inl rfl) (Nat.le_of_ble_eq_true rfl) rfl (fun h4605 w4606 f4607 => ?_)
  refine x_aload_n (M := M_X12_count) dX12_count_5 rfl ?_
  refine x_iload_n (M := M_X12_count) dX12_count_6 rfl ?_
  refine x_callSR (M := M_X12_count) (M' := M_X12_isSlot) rfl rfl dX12_count_7 m_X12_isSlot t_2841 t_2842 (q447 hl c0 c1) rfl rfl (Nat.le_of_ble_eq_true rfl) (Nat.le_of_ble_eq_true rfl) (Nat.le_of_ble_eq_true rfl) (Nat.le_of_ble_eq_true rfl) ?_
  refine x_if_eq (M := M_X12_count) (tgt := 25) dX12_count_10 (by decide) (fun q => absurd q (by decide +kernel)) (fun _ => ?_)
  refine x_iload_n (M := M_X12_count) dX12_count_13 rfl ?_
  refine x_i2l (M := M_X12_count) dX12_count_14 ?_
  refine x_lconst (M := M_X12_count) dX12_count_15 ?_
  refine x_ldc2 (M := M_X12_count) dX12_count_16 t_3118 ?_
  refine x_norm (M := M_X12_count) (st' := [.long (Int64.ofInt 5), .long (Int64.ofInt 0), .long (a1.toInt64), .ref 277]) rfl (vj_cons (by decide +kernel : (5 : Int64) = (Int64.ofInt 5)) (vj_cons (by decide +kernel : (Int64.ofNat ((0 : Fin 2) : Nat)) = (Int64.ofInt 0)) rfl)) rfl rfl rfl ?_
  refine x_callSR (M := M_X12_count) (M' := M_X12_in) rfl rfl dX12_count_19 m_X12_in t_2818 t_2819 (q4608 hl c2) rfl rfl (Nat.le_of_ble_eq_true rfl) (Nat.le_of_ble_eq_true rfl) (Nat.le_of_ble_eq_true rfl) (Nat.le_of_ble_eq_true rfl) ?_
  refine x_if_ne (M := M_X12_count) (tgt := 29) dX12_count_22 (by decide) (fun q => absurd q (by decide +kernel)) (fun _ => ?_)
  refine x_iconst (M := M_X12_count) dX12_count_25 ?_
  refine x_goto (M := M_X12_count) (tgt := 30) dX12_count_26 (by decide) ?_
  refine x_iconst (M := M_X12_count) dX12_count_30 ?_
  refine y_callVR (M := M_X12_count) (M' := M_X12_fails) rfl rfl dX12_count_31 m_X12_fails t_2805 t_2807 s_157 (q22 hl w4606) rfl rfl w4606 rfl (Nat.le_of_ble_eq_true rfl) (Nat.le_of_ble_eq_true rfl) (Nat.le_of_ble_eq_true rfl) (Nat.le_of_ble_eq_true rfl) (fun h4609 f4610 w4611 => ?_)
  obtain ⟨o4612, -⟩ := w4611
  refine x_if_eq (M := M_X12_count) (tgt := 39) dX12_count_34 (by decide) (fun q => absurd q (by decide +kernel)) (fun _ => ?_)
  refine x_iconst (M := M_X12_count) dX12_count_37 ?_
  exact x_iret (M := M_X12_count) dX12_count_38 rfl ⟨rfl, (fr_tr f4610 (by decide) (fr_tr f4607 (by decide) fr_rf)), ⟨o4612, trivial⟩⟩ (Nat.le_of_ble_eq_true rfl) (Nat.le_of_ble_eq_true rfl)
set_option maxRecDepth 10000 in
theorem lc28_1 {l : Launch} {E : EE} (hl : l.stackTraces = false) (nm : String) {xs : Nat → Int32} (hx : E.2.2.2.2 0 = some (7, xs)) {h : HP} {a0 : Int32} {a1 : Int32} {dg : Int32} (e2 : xs 2 = a0) (e3 : xs 3 = a1) (c0 : ¬ (a0.toInt < 0)) (c1 : a0.toInt < 32) (c2 : a1.toInt < 0) (o4599 : ob h 32 = some (.inr (14, [.ref 33, .ref 162, .ref 166, .int (0 : Int32), .int (0 : Int32), .int (0 : Int32), .ref 167, .ref 170, .ref 173, .ref 177, .ref 193, .ref 208, .ref 222, .ref 238, .ref 252, .ref 274, .ref 275, .ref 276, .int (0 : Int32)]))) (o4600 : ob h 33 = some (.inl (4, 32, .inr (.inr (.inr (.inr (shf 1 32))))))) (o4614 : ob h 277 = some (.inr (15, (RB dg)))) : XX l E (M_law nm) 1312 342628 8074320 (fun o _ => o = .inl (some (.int 1))) 2085 [some (.ref 0), some (.ref 32), some (.ref 277), some (.ref 359), some (.int (Int32.ofInt 1)), none, none, none] [] h 328 2463747 := by
  refine x_aload_n (M := (M_law nm)) dL_law_2085 rfl ?_
  refine x_aload_n (M := (M_law nm)) dL_law_2086 rfl ?_
  refine x_iload (M := (M_law nm)) dL_law_2087 rfl ?_
  refine x_iconst (M := (M_law nm)) dL_law_2089 ?_
  refine x_iadd (M := (M_law nm)) dL_law_2090 ?_
  refine x_sald (M := (M_law nm)) dL_law_2091 (by decide) hx (vp_inD (by decide +kernel)) ?_
  refine x_top (M := (M_law nm)) (y := a0) ((congrArg xs (by decide +kernel : ((Int32.ofInt 1) + (Int32.ofInt 1)).toNatClampNeg = 2)).trans e2) ?_
  refine x_aload_n (M := (M_law nm)) dL_law_2092 rfl ?_
  refine x_iload (M := (M_law nm)) dL_law_2093 rfl ?_
  refine x_iconst (M := (M_law nm)) dL_law_2095 ?_
  refine x_iadd (M := (M_law nm)) dL_law_2096 ?_
  refine x_sald (M := (M_law nm)) dL_law_2097 (by decide) hx (vp_inD (by decide +kernel)) ?_
  refine x_top (M := (M_law nm)) (y := a1) ((congrArg xs (by decide +kernel : ((Int32.ofInt 1) + (Int32.ofInt 2)).toNatClampNeg = 3)).trans e3) ?_
  refine x_aload_n (M := (M_law nm)) dL_law_2098 rfl ?_
  refine y_callSW (M := (M_law nm)) (M' := M_L_count) rfl rfl dL_law_2099 m_L_count t_2291 t_2292 (q4598 hl c0 c1 c2 o4599 o4600) rfl rfl (Nat.le_of_ble_eq_true rfl) (Nat.le_of_ble_eq_true rfl) (Nat.le_of_ble_eq_true rfl) (Nat.le_of_ble_eq_true rfl) (fun h4601 f4602 w4603 => ?_)
  refine x_istore (M := (M_law nm)) dL_law_2102 (Nat.le_of_ble_eq_true rfl) rfl ?_
  refine x_aload_n (M := (M_law nm)) dL_law_2104 rfl ?_
  refine x_aload_n (M := (M_law nm)) dL_law_2105 rfl ?_
  refine x_iload (M := (M_law nm)) dL_law_2106 rfl ?_
  refine x_iconst (M := (M_law nm)) dL_law_2108 ?_
  refine x_iadd (M := (M_law nm)) dL_law_2109 ?_
  refine x_sald (M := (M_law nm)) dL_law_2110 (by decide) hx (vp_inD (by decide +kernel)) ?_
  refine x_top (M := (M_law nm)) (y := a0) ((congrArg xs (by decide +kernel : ((Int32.ofInt 1) + (Int32.ofInt 1)).toNatClampNeg = 2)).trans e2) ?_
  refine x_aload_n (M := (M_law nm)) dL_law_2111 rfl ?_
  refine x_iload (M := (M_law nm)) dL_law_2112 rfl ?_
  refine x_iconst (M := (M_law nm)) dL_law_2114 ?_
  refine x_iadd (M := (M_law nm)) dL_law_2115 ?_
  refine x_sald (M := (M_law nm)) dL_law_2116 (by decide) hx (vp_inD (by decide +kernel)) ?_
  refine x_top (M := (M_law nm)) (y := a1) ((congrArg xs (by decide +kernel : ((Int32.ofInt 1) + (Int32.ofInt 2)).toNatClampNeg = 3)).trans e3) ?_
  have o4615 := (f4602 277 _ (by decide) o4614)
  refine y_callVR (M := (M_law nm)) (M' := M_X12_count) rfl rfl dL_law_2117 m_X12_count t_3114 t_3115 t_3116 (q4613 hl c0 c1 c2 o4615) rfl rfl o4615 rfl (Nat.le_of_ble_eq_true rfl) (Nat.le_of_ble_eq_true rfl) (Nat.le_of_ble_eq_true rfl) (Nat.le_of_ble_eq_true rfl) (fun h4616 f4617 w4618 => ?_)
  obtain ⟨o4619, -⟩ := w4618
  refine x_istore (M := (M_law nm)) dL_law_2120 (Nat.le_of_ble_eq_true rfl) rfl ?_
  refine x_aload_n (M := (M_law nm)) dL_law_2122 rfl ?_
  refine x_callVR (M := (M_law nm)) (M' := M_X12_thrown) rfl rfl dL_law_2123 m_X12_thrown t_2797 t_2798 t_2799 (q35 hl o4619) rfl rfl o4619 rfl (Nat.le_of_ble_eq_true rfl) (Nat.le_of_ble_eq_true rfl) (Nat.le_of_ble_eq_true rfl) (Nat.le_of_ble_eq_true rfl) ?_
  refine x_iload (M := (M_law nm)) dL_law_2126 rfl ?_
  refine x_icmp_eq (M := (M_law nm)) (tgt := 2133) dL_law_2128 (by decide) (fun _ => ?_) (fun q => absurd q (by decide +kernel))
  refine x_iload (M := (M_law nm)) dL_law_2133 rfl ?_
  refine x_if_ne (M := (M_law nm)) (tgt := 2150) dL_law_2135 (by decide) (fun _ => ?_) (fun q => absurd q (by decide +kernel))
  refine x_goto (M := (M_law nm)) (tgt := 2449) dL_law_2150 (by decide) ?_
  refine x_iinc (M := (M_law nm)) dL_law_2449 rfl (Nat.le_of_ble_eq_true rfl) rfl ?_
  refine x_lvs (M := (M_law nm)) (lv' := [some (.ref 0), some (.ref 32), some (.ref 277), some (.ref 359), some (.int (Int32.ofInt 7)), some (.int (Int32.ofInt 1)), some (.int (Int32.ofInt 0)), none]) (by rw [(by decide +kernel : (Int32.ofInt 1) + Int32.ofInt 6 = (Int32.ofInt 7))] <;> rfl) ?_
  refine x_goto (M := (M_law nm)) (tgt := 33) dL_law_2452 (by decide) ?_
  refine x_iload (M := (M_law nm)) dL_law_33 rfl ?_
  refine x_aload_n (M := (M_law nm)) dL_law_35 rfl ?_
  refine x_slen (M := (M_law nm)) dL_law_36 (by decide) hx ?_
  refine x_bipush (M := (M_law nm)) dL_law_37 ?_
  refine x_isub (M := (M_law nm)) dL_law_39 ?_
  refine x_icmp_gt (M := (M_law nm)) (tgt := 2455) dL_law_40 (by decide) (fun _ => ?_) (fun q => absurd q (by decide +kernel))
  refine x_iconst (M := (M_law nm)) dL_law_2455 ?_
  exact x_zret (M := (M_law nm)) dL_law_2456 rfl (by decide) rfl (Nat.le_of_ble_eq_true rfl) (Nat.le_of_ble_eq_true rfl)
set_option maxRecDepth 10000 in
theorem q4625 {l : Launch} {E : EE} (hl : l.stackTraces = false) {h : HP} {a0 : Int32} {a1 : Int32} (c0 : ¬ (a0.toInt < 0)) (c1 : a0.toInt < 32) (c2 : ¬ (a1.toInt < 0)) (c3 : 5 < a1.toInt) (o4622 : ob h 32 = some (.inr (14, [.ref 33, .ref 162, .ref 166, .int (0 : Int32), .int (0 : Int32), .int (0 : Int32), .ref 167, .ref 170, .ref 173, .ref 177, .ref 193, .ref 208, .ref 222, .ref 238, .ref 252, .ref 274, .ref 275, .ref 276, .int (0 : Int32)]))) (o4623 : ob h 33 = some (.inl (4, 32, .inr (.inr (.inr (.inr (shf 1 32))))))) : en_C l E M_X11_count 6 1 6 [.ref 32, .int a0, .int a1] h (pT "java/lang/IndexOutOfBoundsException" [] h (fun _ => True)) := by
  refine en_mk m_X11_count rfl hl (Nat.le_of_ble_eq_true rfl) ?_
  refine x_aload_n (M := M_X11_count) dX11_count_0 rfl ?_
  refine x_iload_n (M := M_X11_count) dX11_count_1 rfl ?_
  refine x_callVR (M := M_X11_count) (M' := M_X11_slotNumbered) rfl rfl dX11_count_2 m_X11_slotNumbered t_744 t_746 s_2 (q425 hl c0 c1 o4622 o4623) rfl rfl o4622 rfl (Nat.le_of_ble_eq_true rfl) (Nat.le_of_ble_eq_true rfl) (Nat.le_of_ble_eq_true rfl) (Nat.le_of_ble_eq_true rfl) ?_
  refine x_astore_n (M := M_X11_count) dX11_count_5 (Nat.le_of_ble_eq_true rfl) rfl ?_
  refine x_iload_n (M := M_X11_count) dX11_count_6 rfl ?_
  refine x_tabOut (M := M_X11_count) (tgt := 77) dX11_count_7 (by have e9 : a1.toInt = a1.toInt := rfl; omega) (by decide) ?_
  exact x_throw (M := M_X11_count) (names := en_nm) rfl dX11_count_77 dX11_count_80 dX11_count_81 dX11_count_84 (by decide +kernel) en_nm_ok (Or.inl t_748) (Or.inl t_22) (at_X11_IndexOutOfBoundsException_139) (Nat.le_of_ble_eq_true rfl) (Nat.le_of_ble_eq_true rfl) (Nat.le_of_ble_eq_true rfl) (Nat.le_of_ble_eq_true rfl) (fun n9 => ⟨rfl, (fr_tr (fr_app (List.replicate n9 none)) (fun _ h => nomatch h) fr_rf), trivial⟩)
set_option maxRecDepth 10000 in
theorem q4631 {l : Launch} {E : EE} (hl : l.stackTraces = false) {h : HP} {a0 : Int32} {a1 : Int32} (c0 : ¬ (a0.toInt < 0)) (c1 : a0.toInt < 32) (c2 : ¬ (a1.toInt < 0)) (c3 : 5 < a1.toInt) (o4626 : ob h 32 = some (.inr (14, [.ref 33, .ref 162, .ref 166, .int (0 : Int32), .int (0 : Int32), .int (0 : Int32), .ref 167, .ref 170, .ref 173, .ref 177, .ref 193, .ref 208, .ref 222, .ref 238, .ref 252, .ref 274, .ref 275, .ref 276, .int (0 : Int32)]))) (o4627 : ob h 33 = some (.inl (4, 32, .inr (.inr (.inr (.inr (shf 1 32))))))) : en_C l E M_L_count 7 1 6 [.ref 32, .int a0, .int a1, .ref 359] h (pF (some (.int (Int32.ofInt 1))) [] h (fun _ => True)) := by
  refine en_mkW m_L_count rfl hl (Nat.le_of_ble_eq_true rfl) ?_
  refine x_aload_n (M := M_L_count) dL_count_0 rfl ?_
  refine x_iconst (M := M_L_count) dL_count_1 ?_
  refine x_aload_n (M := M_L_count) dL_count_2 rfl ?_
  refine x_iload_n (M := M_L_count) dL_count_3 rfl ?_
  refine x_iload_n (M := M_L_count) dL_count_4 rfl ?_
  refine y_callVHX (M := M_L_count) (M' := M_X11_count) (i9 := 4) (nx := 15) rfl dL_count_5 m_X11_count t_2294 t_2295 t_2296 o4626 rfl (q4625 hl c0 c1 c2 c3 o4626 o4627) rfl rfl (Nat.le_of_ble_eq_true rfl) (Nat.le_of_ble_eq_true rfl) (Nat.le_of_ble_eq_true rfl) (Nat.le_of_ble_eq_true rfl) (en_hdm (k0 := 4) [] [] rfl (fun _ h => nomatch h) (by decide +kernel) (by decide) t_739 n_750 dL_count_13) (by decide) rfl (fun h4628 f4629 w4630 => ?_)
  refine x_iconst (M := M_L_count) dL_count_15 ?_
  exact x_iret (M := M_L_count) dL_count_16 rfl ⟨rfl, (fr_tr f4629 (fun _ h => nomatch h) fr_rf), trivial⟩ (Nat.le_of_ble_eq_true rfl) (Nat.le_of_ble_eq_true rfl)
set_option maxRecDepth 10000 in
theorem q4641 {l : Launch} {E : EE} (hl : l.stackTraces = false) {h : HP} {a1 : Int32} (c0 : ¬ (a1.toInt < 0)) (c1 : 5 < a1.toInt) : en_C l E M_X12_in 0 0 0 [.long (a1.toInt64), .long (Int64.ofInt 0), .long (Int64.ofInt 5)] h (pR (some (.int (Int32.ofInt 0))) h) := by
  refine en_mk m_X12_in rfl hl (Nat.le_of_ble_eq_true rfl) ?_
  refine x_lload_n (M := M_X12_in) dX12_in_0 rfl ?_
  refine x_lload_n (M := M_X12_in) dX12_in_1 rfl ?_
  refine x_lcmp (M := M_X12_in) dX12_in_2 ?_
  refine x_if_lt (M := M_X12_in) (tgt := 17) dX12_in_3 (by decide) (fun q => absurd ((bc_lt (i_i2l rfl) (by decide +kernel)).mp q) (by omega : ¬ (a1.toInt < 0))) (fun _ => ?_)
  refine x_lload_n (M := M_X12_in) dX12_in_6 rfl ?_
  refine x_lload (M := M_X12_in) dX12_in_7 rfl ?_
  refine x_lcmp (M := M_X12_in) dX12_in_9 ?_
  refine x_if_gt (M := M_X12_in) (tgt := 17) dX12_in_10 (by decide) (fun _ => ?_) (fun q => absurd ((bc_gt (i_i2l rfl) (by decide +kernel)).mpr (by omega : (5 < a1.toInt : Prop))) q)
  refine x_iconst (M := M_X12_in) dX12_in_17 ?_
  exact x_zret (M := M_X12_in) dX12_in_18 rfl (by decide) ⟨rfl, rfl⟩ (Nat.le_of_ble_eq_true rfl) (Nat.le_of_ble_eq_true rfl)
set_option maxRecDepth 10000 in
theorem q4646 {l : Launch} {E : EE} (hl : l.stackTraces = false) {h : HP} {a0 : Int32} {a1 : Int32} {dg : Int32} (c0 : ¬ (a0.toInt < 0)) (c1 : a0.toInt < 32) (c2 : ¬ (a1.toInt < 0)) (c3 : 5 < a1.toInt) (o4637 : ob h 277 = some (.inr (15, (RB dg)))) : en_C l E M_X12_count 1 0 0 [.ref 277, .int a0, .int a1] h (pF (some (.int (Int32.ofInt 0))) [277] h (fun h' => ob h' 277 = some (.inr (15, ((RB dg).set 0 (.int (Int32.ofInt 1))))) ∧ True)) := by
  refine en_mk m_X12_count rfl hl (Nat.le_of_ble_eq_true rfl) ?_
  refine x_aload_n (M := M_X12_count) dX12_count_0 rfl ?_
  refine x_iconst (M := M_X12_count) dX12_count_1 ?_
  refine y_put (M := M_X12_count) (ci := 15) (C := RX12) (T := TX12) (N := 135) (ty := tyX12) cl15 dX12_count_2 o4637 0 (by decide) t_2391 (Or.inl rfl) (Nat.le_of_ble_eq_true rfl) rfl (fun h4638 w4639 f4640 => ?_)
  refine x_aload_n (M := M_X12_count) dX12_count_5 rfl ?_
  refine x_iload_n (M := M_X12_count) dX12_count_6 rfl ?_
  refine x_callSR (M := M_X12_count) (M' := M_X12_isSlot) rfl rfl dX12_count_7 m_X12_isSlot t_2841 t_2842 (q447 hl c0 c1) rfl rfl (Nat.le_of_ble_eq_true rfl) (Nat.le_of_ble_eq_true rfl) (Nat.le_of_ble_eq_true rfl) (Nat.le_of_ble_eq_true rfl) ?_
  refine x_if_eq (M := M_X12_count) (tgt := 25) dX12_count_10 (by decide) (fun q => absurd q (by decide +kernel)) (fun _ => ?_)
  refine x_iload_n (M := M_X12_count) dX12_count_13 rfl ?_
  refine x_i2l (M := M_X12_count) dX12_count_14 ?_
  refine x_lconst (M := M_X12_count) dX12_count_15 ?_
  refine x_ldc2 (M := M_X12_count) dX12_count_16 t_3118 ?_
  refine x_norm (M := M_X12_count) (st' := [.long (Int64.ofInt 5), .long (Int64.ofInt 0), .long (a1.toInt64), .ref 277]) rfl (vj_cons (by decide +kernel : (5 : Int64) = (Int64.ofInt 5)) (vj_cons (by decide +kernel : (Int64.ofNat ((0 : Fin 2) : Nat)) = (Int64.ofInt 0)) rfl)) rfl rfl rfl ?_
  refine x_callSR (M := M_X12_count) (M' := M_X12_in) rfl rfl dX12_count_19 m_X12_in t_2818 t_2819 (q4641 hl c2 c3) rfl rfl (Nat.le_of_ble_eq_true rfl) (Nat.le_of_ble_eq_true rfl) (Nat.le_of_ble_eq_true rfl) (Nat.le_of_ble_eq_true rfl) ?_
  refine x_if_ne (M := M_X12_count) (tgt := 29) dX12_count_22 (by decide) (fun q => absurd q (by decide +kernel)) (fun _ => ?_)
  refine x_iconst (M := M_X12_count) dX12_count_25 ?_
  refine x_goto (M := M_X12_count) (tgt := 30) dX12_count_26 (by decide) ?_
  refine x_iconst (M := M_X12_count) dX12_count_30 ?_
  refine y_callVR (M := M_X12_count) (M' := M_X12_fails) rfl rfl dX12_count_31 m_X12_fails t_2805 t_2807 s_157 (q22 hl w4639) rfl rfl w4639 rfl (Nat.le_of_ble_eq_true rfl) (Nat.le_of_ble_eq_true rfl) (Nat.le_of_ble_eq_true rfl) (Nat.le_of_ble_eq_true rfl) (fun h4642 f4643 w4644 => ?_)
  obtain ⟨o4645, -⟩ := w4644
  refine x_if_eq (M := M_X12_count) (tgt := 39) dX12_count_34 (by decide) (fun q => absurd q (by decide +kernel)) (fun _ => ?_)
  refine x_iconst (M := M_X12_count) dX12_count_37 ?_
  exact x_iret (M := M_X12_count) dX12_count_38 rfl ⟨rfl, (fr_tr f4643 (by decide) (fr_tr f4640 (by decide) fr_rf)), ⟨o4645, trivial⟩⟩ (Nat.le_of_ble_eq_true rfl) (Nat.le_of_ble_eq_true rfl)
set_option maxRecDepth 10000 in
theorem lc28_2 {l : Launch} {E : EE} (hl : l.stackTraces = false) (nm : String) {xs : Nat → Int32} (hx : E.2.2.2.2 0 = some (7, xs)) {h : HP} {a0 : Int32} {a1 : Int32} {dg : Int32} (e2 : xs 2 = a0) (e3 : xs 3 = a1) (c0 : ¬ (a0.toInt < 0)) (c1 : a0.toInt < 32) (c2 : ¬ (a1.toInt < 0)) (c3 : 5 < a1.toInt) (o4632 : ob h 32 = some (.inr (14, [.ref 33, .ref 162, .ref 166, .int (0 : Int32), .int (0 : Int32), .int (0 : Int32), .ref 167, .ref 170, .ref 173, .ref 177, .ref 193, .ref 208, .ref 222, .ref 238, .ref 252, .ref 274, .ref 275, .ref 276, .int (0 : Int32)]))) (o4633 : ob h 33 = some (.inl (4, 32, .inr (.inr (.inr (.inr (shf 1 32))))))) (o4647 : ob h 277 = some (.inr (15, (RB dg)))) : XX l E (M_law nm) 1312 342628 8074320 (fun o _ => o = .inl (some (.int 1))) 2085 [some (.ref 0), some (.ref 32), some (.ref 277), some (.ref 359), some (.int (Int32.ofInt 1)), none, none, none] [] h 328 2463747 := by
  refine x_aload_n (M := (M_law nm)) dL_law_2085 rfl ?_
  refine x_aload_n (M := (M_law nm)) dL_law_2086 rfl ?_
  refine x_iload (M := (M_law nm)) dL_law_2087 rfl ?_
  refine x_iconst (M := (M_law nm)) dL_law_2089 ?_
  refine x_iadd (M := (M_law nm)) dL_law_2090 ?_
  refine x_sald (M := (M_law nm)) dL_law_2091 (by decide) hx (vp_inD (by decide +kernel)) ?_
  refine x_top (M := (M_law nm)) (y := a0) ((congrArg xs (by decide +kernel : ((Int32.ofInt 1) + (Int32.ofInt 1)).toNatClampNeg = 2)).trans e2) ?_
  refine x_aload_n (M := (M_law nm)) dL_law_2092 rfl ?_
  refine x_iload (M := (M_law nm)) dL_law_2093 rfl ?_
  refine x_iconst (M := (M_law nm)) dL_law_2095 ?_
  refine x_iadd (M := (M_law nm)) dL_law_2096 ?_
  refine x_sald (M := (M_law nm)) dL_law_2097 (by decide) hx (vp_inD (by decide +kernel)) ?_
  refine x_top (M := (M_law nm)) (y := a1) ((congrArg xs (by decide +kernel : ((Int32.ofInt 1) + (Int32.ofInt 2)).toNatClampNeg = 3)).trans e3) ?_
  refine x_aload_n (M := (M_law nm)) dL_law_2098 rfl ?_
  refine y_callSW (M := (M_law nm)) (M' := M_L_count) rfl rfl dL_law_2099 m_L_count t_2291 t_2292 (q4631 hl c0 c1 c2 c3 o4632 o4633) rfl rfl (Nat.le_of_ble_eq_true rfl) (Nat.le_of_ble_eq_true rfl) (Nat.le_of_ble_eq_true rfl) (Nat.le_of_ble_eq_true rfl) (fun h4634 f4635 w4636 => ?_)
  refine x_istore (M := (M_law nm)) dL_law_2102 (Nat.le_of_ble_eq_true rfl) rfl ?_
  refine x_aload_n (M := (M_law nm)) dL_law_2104 rfl ?_
  refine x_aload_n (M := (M_law nm)) dL_law_2105 rfl ?_
  refine x_iload (M := (M_law nm)) dL_law_2106 rfl ?_
  refine x_iconst (M := (M_law nm)) dL_law_2108 ?_
  refine x_iadd (M := (M_law nm)) dL_law_2109 ?_
  refine x_sald (M := (M_law nm)) dL_law_2110 (by decide) hx (vp_inD (by decide +kernel)) ?_
  refine x_top (M := (M_law nm)) (y := a0) ((congrArg xs (by decide +kernel : ((Int32.ofInt 1) + (Int32.ofInt 1)).toNatClampNeg = 2)).trans e2) ?_
  refine x_aload_n (M := (M_law nm)) dL_law_2111 rfl ?_
  refine x_iload (M := (M_law nm)) dL_law_2112 rfl ?_
  refine x_iconst (M := (M_law nm)) dL_law_2114 ?_
  refine x_iadd (M := (M_law nm)) dL_law_2115 ?_
  refine x_sald (M := (M_law nm)) dL_law_2116 (by decide) hx (vp_inD (by decide +kernel)) ?_
  refine x_top (M := (M_law nm)) (y := a1) ((congrArg xs (by decide +kernel : ((Int32.ofInt 1) + (Int32.ofInt 2)).toNatClampNeg = 3)).trans e3) ?_
  have o4648 := (f4635 277 _ (by decide) o4647)
  refine y_callVR (M := (M_law nm)) (M' := M_X12_count) rfl rfl dL_law_2117 m_X12_count t_3114 t_3115 t_3116 (q4646 hl c0 c1 c2 c3 o4648) rfl rfl o4648 rfl (Nat.le_of_ble_eq_true rfl) (Nat.le_of_ble_eq_true rfl) (Nat.le_of_ble_eq_true rfl) (Nat.le_of_ble_eq_true rfl) (fun h4649 f4650 w4651 => ?_)
  obtain ⟨o4652, -⟩ := w4651
  refine x_istore (M := (M_law nm)) dL_law_2120 (Nat.le_of_ble_eq_true rfl) rfl ?_
  refine x_aload_n (M := (M_law nm)) dL_law_2122 rfl ?_
  refine x_callVR (M := (M_law nm)) (M' := M_X12_thrown) rfl rfl dL_law_2123 m_X12_thrown t_2797 t_2798 t_2799 (q35 hl o4652) rfl rfl o4652 rfl (Nat.le_of_ble_eq_true rfl) (Nat.le_of_ble_eq_true rfl) (Nat.le_of_ble_eq_true rfl) (Nat.le_of_ble_eq_true rfl) ?_
  refine x_iload (M := (M_law nm)) dL_law_2126 rfl ?_
  refine x_icmp_eq (M := (M_law nm)) (tgt := 2133) dL_law_2128 (by decide) (fun _ => ?_) (fun q => absurd q (by decide +kernel))
  refine x_iload (M := (M_law nm)) dL_law_2133 rfl ?_
  refine x_if_ne (M := (M_law nm)) (tgt := 2150) dL_law_2135 (by decide) (fun _ => ?_) (fun q => absurd q (by decide +kernel))
  refine x_goto (M := (M_law nm)) (tgt := 2449) dL_law_2150 (by decide) ?_
  refine x_iinc (M := (M_law nm)) dL_law_2449 rfl (Nat.le_of_ble_eq_true rfl) rfl ?_
  refine x_lvs (M := (M_law nm)) (lv' := [some (.ref 0), some (.ref 32), some (.ref 277), some (.ref 359), some (.int (Int32.ofInt 7)), some (.int (Int32.ofInt 1)), some (.int (Int32.ofInt 0)), none]) (by rw [(by decide +kernel : (Int32.ofInt 1) + Int32.ofInt 6 = (Int32.ofInt 7))] <;> rfl) ?_
  refine x_goto (M := (M_law nm)) (tgt := 33) dL_law_2452 (by decide) ?_
  refine x_iload (M := (M_law nm)) dL_law_33 rfl ?_
  refine x_aload_n (M := (M_law nm)) dL_law_35 rfl ?_
  refine x_slen (M := (M_law nm)) dL_law_36 (by decide) hx ?_
  refine x_bipush (M := (M_law nm)) dL_law_37 ?_
  refine x_isub (M := (M_law nm)) dL_law_39 ?_
  refine x_icmp_gt (M := (M_law nm)) (tgt := 2455) dL_law_40 (by decide) (fun _ => ?_) (fun q => absurd q (by decide +kernel))
  refine x_iconst (M := (M_law nm)) dL_law_2455 ?_
  exact x_zret (M := (M_law nm)) dL_law_2456 rfl (by decide) rfl (Nat.le_of_ble_eq_true rfl) (Nat.le_of_ble_eq_true rfl)
set_option maxRecDepth 10000 in
theorem q4658 {l : Launch} {E : EE} (hl : l.stackTraces = false) {h : HP} {a0 : Int32} {a1 : Int32} (c0 : ¬ (a0.toInt < 0)) (c1 : a0.toInt < 32) (c2 : ¬ (a1.toInt < 0)) (c3 : ¬ (5 < a1.toInt)) (c4 : a1.toInt = 0) (o4655 : ob h 32 = some (.inr (14, [.ref 33, .ref 162, .ref 166, .int (0 : Int32), .int (0 : Int32), .int (0 : Int32), .ref 167, .ref 170, .ref 173, .ref 177, .ref 193, .ref 208, .ref 222, .ref 238, .ref 252, .ref 274, .ref 275, .ref 276, .int (0 : Int32)]))) (o4656 : ob h 33 = some (.inl (4, 32, .inr (.inr (.inr (.inr (shf 1 32))))))) (o4657 : ob h (34 + 4 * a0.toNatClampNeg) = some (.inr (9, [.ref (35 + 4 * a0.toNatClampNeg), .ref (36 + 4 * a0.toNatClampNeg), .ref (37 + 4 * a0.toNatClampNeg), .int (0 : Int32), .int (0 : Int32)]))) : en_C l E M_X11_count 1 0 0 [.ref 32, .int a0, .int a1] h (pR (some (.int (Int32.ofInt 0))) h) := by
  have n_a0 : a0.toNatClampNeg < 32 := nc_lt (by omega) (by decide)
  refine en_mk m_X11_count rfl hl (Nat.le_of_ble_eq_true rfl) ?_
  refine x_aload_n (M := M_X11_count) dX11_count_0 rfl ?_
  refine x_iload_n (M := M_X11_count) dX11_count_1 rfl ?_
  refine x_callVR (M := M_X11_count) (M' := M_X11_slotNumbered) rfl rfl dX11_count_2 m_X11_slotNumbered t_744 t_746 s_2 (q425 hl c0 c1 o4655 o4656) rfl rfl o4655 rfl (Nat.le_of_ble_eq_true rfl) (Nat.le_of_ble_eq_true rfl) (Nat.le_of_ble_eq_true rfl) (Nat.le_of_ble_eq_true rfl) ?_
  refine x_astore_n (M := M_X11_count) dX11_count_5 (Nat.le_of_ble_eq_true rfl) rfl ?_
  refine x_iload_n (M := M_X11_count) dX11_count_6 rfl ?_
  refine x_tabIn (M := M_X11_count) (tgt := 44) (off := 37) dX11_count_7 (by have e9 : a1.toInt = 0 := (by have e8 : a1.toInt = a1.toInt := rfl; omega); rw [e9] <;> decide) (by have e9 : a1.toInt = 0 := (by have e8 : a1.toInt = a1.toInt := rfl; omega); rw [e9] <;> decide) (by have e9 : a1.toInt = 0 := (by have e8 : a1.toInt = a1.toInt := rfl; omega); rw [e9] <;> rfl) (by decide) ?_
  refine x_aload_n (M := M_X11_count) dX11_count_44 rfl ?_
  refine x_getf (M := M_X11_count) (ci := 9) (C := RX6) (T := TX6) (N := 5) (ty := tyX6) cl9 dX11_count_45 o4657 3 (by decide) t_79 (v := .int (0 : Int32)) rfl ?_
  refine x_top (M := M_X11_count) (y := (Int32.ofInt 0)) (by decide +kernel) ?_
  exact x_iret (M := M_X11_count) dX11_count_48 rfl ⟨rfl, rfl⟩ (Nat.le_of_ble_eq_true rfl) (Nat.le_of_ble_eq_true rfl)
set_option maxRecDepth 10000 in
theorem q4671 {l : Launch} {E : EE} (hl : l.stackTraces = false) {h : HP} {a0 : Int32} {a1 : Int32} (c0 : ¬ (a0.toInt < 0)) (c1 : a0.toInt < 32) (c2 : ¬ (a1.toInt < 0)) (c3 : ¬ (5 < a1.toInt)) (c4 : a1.toInt = 0) (o4659 : ob h 32 = some (.inr (14, [.ref 33, .ref 162, .ref 166, .int (0 : Int32), .int (0 : Int32), .int (0 : Int32), .ref 167, .ref 170, .ref 173, .ref 177, .ref 193, .ref 208, .ref 222, .ref 238, .ref 252, .ref 274, .ref 275, .ref 276, .int (0 : Int32)]))) (o4660 : ob h 33 = some (.inl (4, 32, .inr (.inr (.inr (.inr (shf 1 32))))))) (o4661 : ob h (34 + 4 * a0.toNatClampNeg) = some (.inr (9, [.ref (35 + 4 * a0.toNatClampNeg), .ref (36 + 4 * a0.toNatClampNeg), .ref (37 + 4 * a0.toNatClampNeg), .int (0 : Int32), .int (0 : Int32)]))) (o4666 : ob h 359 = some (.inl (1, 1, .inr (.inl (fun _ => 0))))) : en_C l E M_L_count 2 0 0 [.ref 32, .int a0, .int a1, .ref 359] h (pF (some (.int (Int32.ofInt 0))) [359] h (fun h' => ob h' 359 = some (.inl (1, 1, .inr (.inl (fun _ => 0)))) ∧ True)) := by
  have n_a0 : a0.toNatClampNeg < 32 := nc_lt (by omega) (by decide)
  refine en_mkW m_L_count rfl hl (Nat.le_of_ble_eq_true rfl) ?_
  refine x_aload_n (M := M_L_count) dL_count_0 rfl ?_
  refine x_iconst (M := M_L_count) dL_count_1 ?_
  refine x_aload_n (M := M_L_count) dL_count_2 rfl ?_
  refine x_iload_n (M := M_L_count) dL_count_3 rfl ?_
  refine x_iload_n (M := M_L_count) dL_count_4 rfl ?_
  refine x_callVH (M := M_L_count) (M' := M_X11_count) rfl dL_count_5 m_X11_count t_2294 t_2295 t_2296 o4659 rfl [.int a0, .int a1] rfl rfl (Nat.le_of_ble_eq_true rfl) (q4658 hl c0 c1 c2 c3 c4 o4659 o4660 o4661) (Nat.le_of_ble_eq_true rfl) (Nat.le_of_ble_eq_true rfl) (Nat.le_of_ble_eq_true rfl) (fun N h' hp => nomatch hp.1) (fun v h' hp => ?_)
  obtain ⟨e4665, rfl⟩ := hp
  cases e4665
  refine x_i2l (M := M_L_count) dL_count_8 ?_
  refine x_norm (M := M_L_count) (st' := [.long (Int64.ofInt 0), .int (Int32.ofInt 0), .ref 359]) rfl (vj_cons (by decide +kernel : ((Int32.ofInt 0).toInt64) = (Int64.ofInt 0)) rfl) rfl rfl rfl ?_
  refine y_last (M := M_L_count) (k := 0) dL_count_9 o4666 (vp_inD (by decide +kernel)) (by decide +kernel) (fun h4667 w4668 f4669 => ?_)
  have w4670 : ob h4667 359 = some (.inl (1, 1, .inr (.inl (fun _ => 0)))) := by rw [w4668, uq_z (k := 0)]
  refine x_goto (M := M_L_count) (tgt := 17) dL_count_10 (by decide) ?_
  refine x_iconst (M := M_L_count) dL_count_17 ?_
  exact x_iret (M := M_L_count) dL_count_18 rfl ⟨rfl, (fr_tr f4669 (by decide) fr_rf), ⟨w4670, trivial⟩⟩ (Nat.le_of_ble_eq_true rfl) (Nat.le_of_ble_eq_true rfl)
set_option maxRecDepth 10000 in
theorem q4684 {l : Launch} {E : EE} (hl : l.stackTraces = false) {h : HP} {a1 : Int32} (c0 : ¬ (a1.toInt < 0)) (c1 : ¬ (5 < a1.toInt)) (c2 : a1.toInt = 0) : en_C l E M_X12_in 0 0 0 [.long (a1.toInt64), .long (Int64.ofInt 0), .long (Int64.ofInt 5)] h (pR (some (.int (Int32.ofInt 1))) h) := by
  refine en_mk m_X12_in rfl hl (Nat.le_of_ble_eq_true rfl) ?_
  refine x_lload_n (M := M_X12_in) dX12_in_0 rfl ?_
  refine x_lload_n (M := M_X12_in) dX12_in_1 rfl ?_
  refine x_lcmp (M := M_X12_in) dX12_in_2 ?_
  refine x_if_lt (M := M_X12_in) (tgt := 17) dX12_in_3 (by decide) (fun q => absurd ((bc_lt (i_i2l rfl) (by decide +kernel)).mp q) (by omega : ¬ (a1.toInt < 0))) (fun _ => ?_)
  refine x_lload_n (M := M_X12_in) dX12_in_6 rfl ?_
  refine x_lload (M := M_X12_in) dX12_in_7 rfl ?_
  refine x_lcmp (M := M_X12_in) dX12_in_9 ?_
  refine x_if_gt (M := M_X12_in) (tgt := 17) dX12_in_10 (by decide) (fun q => absurd ((bc_gt (i_i2l rfl) (by decide +kernel)).mp q) (by omega : ¬ (5 < a1.toInt))) (fun _ => ?_)
  refine x_iconst (M := M_X12_in) dX12_in_13 ?_
  refine x_goto (M := M_X12_in) (tgt := 18) dX12_in_14 (by decide) ?_
  exact x_zret (M := M_X12_in) dX12_in_18 rfl (by decide) ⟨rfl, rfl⟩ (Nat.le_of_ble_eq_true rfl) (Nat.le_of_ble_eq_true rfl)
set_option maxRecDepth 10000 in
theorem q4691 {l : Launch} {E : EE} (hl : l.stackTraces = false) {h : HP} {a0 : Int32} {a1 : Int32} {dg : Int32} (c0 : ¬ (a0.toInt < 0)) (c1 : a0.toInt < 32) (c2 : ¬ (a1.toInt < 0)) (c3 : ¬ (5 < a1.toInt)) (c4 : a1.toInt = 0) (o4680 : ob h 277 = some (.inr (15, (RB dg)))) (o4689 : ob h 280 = some (.inl (0, 33, .inl (fun _ => 0)))) : en_C l E M_X12_count 1 0 0 [.ref 277, .int a0, .int a1] h (pF (some (.int (Int32.ofInt 0))) [277] h (fun h' => ob h' 277 = some (.inr (15, ((RB dg).set 0 (.int (Int32.ofInt 0))))) ∧ True)) := by
  refine en_mk m_X12_count rfl hl (Nat.le_of_ble_eq_true rfl) ?_
  refine x_aload_n (M := M_X12_count) dX12_count_0 rfl ?_
  refine x_iconst (M := M_X12_count) dX12_count_1 ?_
  refine y_put (M := M_X12_count) (ci := 15) (C := RX12) (T := TX12) (N := 135) (ty := tyX12) cl15 dX12_count_2 o4680 0 (by decide) t_2391 (Or.inl rfl) (Nat.le_of_ble_eq_true rfl) rfl (fun h4681 w4682 f4683 => ?_)
  refine x_aload_n (M := M_X12_count) dX12_count_5 rfl ?_
  refine x_iload_n (M := M_X12_count) dX12_count_6 rfl ?_
  refine x_callSR (M := M_X12_count) (M' := M_X12_isSlot) rfl rfl dX12_count_7 m_X12_isSlot t_2841 t_2842 (q447 hl c0 c1) rfl rfl (Nat.le_of_ble_eq_true rfl) (Nat.le_of_ble_eq_true rfl) (Nat.le_of_ble_eq_true rfl) (Nat.le_of_ble_eq_true rfl) ?_
  refine x_if_eq (M := M_X12_count) (tgt := 25) dX12_count_10 (by decide) (fun q => absurd q (by decide +kernel)) (fun _ => ?_)
  refine x_iload_n (M := M_X12_count) dX12_count_13 rfl ?_
  refine x_i2l (M := M_X12_count) dX12_count_14 ?_
  refine x_lconst (M := M_X12_count) dX12_count_15 ?_
  refine x_ldc2 (M := M_X12_count) dX12_count_16 t_3118 ?_
  refine x_norm (M := M_X12_count) (st' := [.long (Int64.ofInt 5), .long (Int64.ofInt 0), .long (a1.toInt64), .ref 277]) rfl (vj_cons (by decide +kernel : (5 : Int64) = (Int64.ofInt 5)) (vj_cons (by decide +kernel : (Int64.ofNat ((0 : Fin 2) : Nat)) = (Int64.ofInt 0)) rfl)) rfl rfl rfl ?_
  refine x_callSR (M := M_X12_count) (M' := M_X12_in) rfl rfl dX12_count_19 m_X12_in t_2818 t_2819 (q4684 hl c2 c3 c4) rfl rfl (Nat.le_of_ble_eq_true rfl) (Nat.le_of_ble_eq_true rfl) (Nat.le_of_ble_eq_true rfl) (Nat.le_of_ble_eq_true rfl) ?_
  refine x_if_ne (M := M_X12_count) (tgt := 29) dX12_count_22 (by decide) (fun _ => ?_) (fun q => absurd q (by decide +kernel))
  refine x_iconst (M := M_X12_count) dX12_count_29 ?_
  refine x_iconst (M := M_X12_count) dX12_count_30 ?_
  refine y_callVR (M := M_X12_count) (M' := M_X12_fails) rfl rfl dX12_count_31 m_X12_fails t_2805 t_2807 s_157 (q241 hl w4682) rfl rfl w4682 rfl (Nat.le_of_ble_eq_true rfl) (Nat.le_of_ble_eq_true rfl) (Nat.le_of_ble_eq_true rfl) (Nat.le_of_ble_eq_true rfl) (fun h4685 f4686 w4687 => ?_)
  obtain ⟨o4688, -⟩ := w4687
  refine x_if_eq (M := M_X12_count) (tgt := 39) dX12_count_34 (by decide) (fun _ => ?_) (fun q => absurd q (by decide +kernel))
  refine x_iload_n (M := M_X12_count) dX12_count_39 rfl ?_
  refine x_tabIn (M := M_X12_count) (tgt := 76) (off := 36) dX12_count_40 (by have e9 : a1.toInt = 0 := (by have e8 : a1.toInt = a1.toInt := rfl; omega); rw [e9] <;> decide) (by have e9 : a1.toInt = 0 := (by have e8 : a1.toInt = a1.toInt := rfl; omega); rw [e9] <;> decide) (by have e9 : a1.toInt = 0 := (by have e8 : a1.toInt = a1.toInt := rfl; omega); rw [e9] <;> rfl) (by decide) ?_
  refine x_aload_n (M := M_X12_count) dX12_count_76 rfl ?_
  refine x_getf (M := M_X12_count) (ci := 15) (C := RX12) (T := TX12) (N := 135) (ty := tyX12) cl15 dX12_count_77 o4688 9 (by decide) t_2400 (v := .ref 280) rfl ?_
  refine x_iload_n (M := M_X12_count) dX12_count_80 rfl ?_
  have o4690 := (f4686 280 _ (by decide) (f4683 280 _ (by decide) o4689))
  refine x_iald (M := M_X12_count) dX12_count_81 o4690 (vp_in_s (by omega) (by omega)) ?_
  refine x_top (M := M_X12_count) (y := (Int32.ofInt 0)) rfl ?_
  exact x_iret (M := M_X12_count) dX12_count_82 rfl ⟨rfl, (fr_tr f4686 (by decide) (fr_tr f4683 (by decide) fr_rf)), ⟨o4688, trivial⟩⟩ (Nat.le_of_ble_eq_true rfl) (Nat.le_of_ble_eq_true rfl)
set_option maxRecDepth 10000 in
theorem lc28_3 {l : Launch} {E : EE} (hl : l.stackTraces = false) (nm : String) {xs : Nat → Int32} (hx : E.2.2.2.2 0 = some (7, xs)) {h : HP} {a0 : Int32} {a1 : Int32} {dg : Int32} (e2 : xs 2 = a0) (e3 : xs 3 = a1) (c0 : ¬ (a0.toInt < 0)) (c1 : a0.toInt < 32) (c2 : ¬ (a1.toInt < 0)) (c3 : ¬ (5 < a1.toInt)) (c4 : a1.toInt = 0) (o4672 : ob h 32 = some (.inr (14, [.ref 33, .ref 162, .ref 166, .int (0 : Int32), .int (0 : Int32), .int (0 : Int32), .ref 167, .ref 170, .ref 173, .ref 177, .ref 193, .ref 208, .ref 222, .ref 238, .ref 252, .ref 274, .ref 275, .ref 276, .int (0 : Int32)]))) (o4673 : ob h 33 = some (.inl (4, 32, .inr (.inr (.inr (.inr (shf 1 32))))))) (o4674 : ob h (34 + 4 * a0.toNatClampNeg) = some (.inr (9, [.ref (35 + 4 * a0.toNatClampNeg), .ref (36 + 4 * a0.toNatClampNeg), .ref (37 + 4 * a0.toNatClampNeg), .int (0 : Int32), .int (0 : Int32)]))) (o4675 : ob h 359 = some (.inl (1, 1, .inr (.inl (fun _ => 0))))) (o4692 : ob h 277 = some (.inr (15, (RB dg)))) (o4694 : ob h 280 = some (.inl (0, 33, .inl (fun _ => 0)))) : XX l E (M_law nm) 1312 342628 8074320 (fun o _ => o = .inl (some (.int 1))) 2085 [some (.ref 0), some (.ref 32), some (.ref 277), some (.ref 359), some (.int (Int32.ofInt 1)), none, none, none] [] h 328 2463747 := by
  have n_a0 : a0.toNatClampNeg < 32 := nc_lt (by omega) (by decide)
  refine x_aload_n (M := (M_law nm)) dL_law_2085 rfl ?_
  refine x_aload_n (M := (M_law nm)) dL_law_2086 rfl ?_
  refine x_iload (M := (M_law nm)) dL_law_2087 rfl ?_
  refine x_iconst (M := (M_law nm)) dL_law_2089 ?_
  refine x_iadd (M := (M_law nm)) dL_law_2090 ?_
  refine x_sald (M := (M_law nm)) dL_law_2091 (by decide) hx (vp_inD (by decide +kernel)) ?_
  refine x_top (M := (M_law nm)) (y := a0) ((congrArg xs (by decide +kernel : ((Int32.ofInt 1) + (Int32.ofInt 1)).toNatClampNeg = 2)).trans e2) ?_
  refine x_aload_n (M := (M_law nm)) dL_law_2092 rfl ?_
  refine x_iload (M := (M_law nm)) dL_law_2093 rfl ?_
  refine x_iconst (M := (M_law nm)) dL_law_2095 ?_
  refine x_iadd (M := (M_law nm)) dL_law_2096 ?_
  refine x_sald (M := (M_law nm)) dL_law_2097 (by decide) hx (vp_inD (by decide +kernel)) ?_
  refine x_top (M := (M_law nm)) (y := a1) ((congrArg xs (by decide +kernel : ((Int32.ofInt 1) + (Int32.ofInt 2)).toNatClampNeg = 3)).trans e3) ?_
  refine x_aload_n (M := (M_law nm)) dL_law_2098 rfl ?_
  refine y_callSW (M := (M_law nm)) (M' := M_L_count) rfl rfl dL_law_2099 m_L_count t_2291 t_2292 (q4671 hl c0 c1 c2 c3 c4 o4672 o4673 o4674 o4675) rfl rfl (Nat.le_of_ble_eq_true rfl) (Nat.le_of_ble_eq_true rfl) (Nat.le_of_ble_eq_true rfl) (Nat.le_of_ble_eq_true rfl) (fun h4676 f4677 w4678 => ?_)
  obtain ⟨o4679, -⟩ := w4678
  refine x_istore (M := (M_law nm)) dL_law_2102 (Nat.le_of_ble_eq_true rfl) rfl ?_
  refine x_aload_n (M := (M_law nm)) dL_law_2104 rfl ?_
  refine x_aload_n (M := (M_law nm)) dL_law_2105 rfl ?_
  refine x_iload (M := (M_law nm)) dL_law_2106 rfl ?_
  refine x_iconst (M := (M_law nm)) dL_law_2108 ?_
  refine x_iadd (M := (M_law nm)) dL_law_2109 ?_
  refine x_sald (M := (M_law nm)) dL_law_2110 (by decide) hx (vp_inD (by decide +kernel)) ?_
  refine x_top (M := (M_law nm)) (y := a0) ((congrArg xs (by decide +kernel : ((Int32.ofInt 1) + (Int32.ofInt 1)).toNatClampNeg = 2)).trans e2) ?_
  refine x_aload_n (M := (M_law nm)) dL_law_2111 rfl ?_
  refine x_iload (M := (M_law nm)) dL_law_2112 rfl ?_
  refine x_iconst (M := (M_law nm)) dL_law_2114 ?_
  refine x_iadd (M := (M_law nm)) dL_law_2115 ?_
  refine x_sald (M := (M_law nm)) dL_law_2116 (by decide) hx (vp_inD (by decide +kernel)) ?_
  refine x_top (M := (M_law nm)) (y := a1) ((congrArg xs (by decide +kernel : ((Int32.ofInt 1) + (Int32.ofInt 2)).toNatClampNeg = 3)).trans e3) ?_
  have o4693 := (f4677 277 _ (by decide) o4692)
  have o4695 := (f4677 280 _ (by decide) o4694)
  refine y_callVR (M := (M_law nm)) (M' := M_X12_count) rfl rfl dL_law_2117 m_X12_count t_3114 t_3115 t_3116 (q4691 hl c0 c1 c2 c3 c4 o4693 o4695) rfl rfl o4693 rfl (Nat.le_of_ble_eq_true rfl) (Nat.le_of_ble_eq_true rfl) (Nat.le_of_ble_eq_true rfl) (Nat.le_of_ble_eq_true rfl) (fun h4696 f4697 w4698 => ?_)
  obtain ⟨o4699, -⟩ := w4698
  refine x_istore (M := (M_law nm)) dL_law_2120 (Nat.le_of_ble_eq_true rfl) rfl ?_
  refine x_aload_n (M := (M_law nm)) dL_law_2122 rfl ?_
  refine x_callVR (M := (M_law nm)) (M' := M_X12_thrown) rfl rfl dL_law_2123 m_X12_thrown t_2797 t_2798 t_2799 (q254 hl o4699) rfl rfl o4699 rfl (Nat.le_of_ble_eq_true rfl) (Nat.le_of_ble_eq_true rfl) (Nat.le_of_ble_eq_true rfl) (Nat.le_of_ble_eq_true rfl) ?_
  refine x_iload (M := (M_law nm)) dL_law_2126 rfl ?_
  refine x_icmp_eq (M := (M_law nm)) (tgt := 2133) dL_law_2128 (by decide) (fun _ => ?_) (fun q => absurd q (by decide +kernel))
  refine x_iload (M := (M_law nm)) dL_law_2133 rfl ?_
  refine x_if_ne (M := (M_law nm)) (tgt := 2150) dL_law_2135 (by decide) (fun q => absurd q (by decide +kernel)) (fun _ => ?_)
  refine x_aload_n (M := (M_law nm)) dL_law_2138 rfl ?_
  refine x_iconst (M := (M_law nm)) dL_law_2139 ?_
  have o4700 := (f4697 359 _ (by decide) o4679)
  refine x_lald (M := (M_law nm)) dL_law_2140 o4700 (vp_inD (by decide +kernel)) ?_
  refine x_topl (M := (M_law nm)) (y := (Int64.ofInt 0)) (by decide +kernel) ?_
  refine x_iload (M := (M_law nm)) dL_law_2141 rfl ?_
  refine x_i2l (M := (M_law nm)) dL_law_2143 ?_
  refine x_lcmp (M := (M_law nm)) dL_law_2144 ?_
  refine x_if_eq (M := (M_law nm)) (tgt := 2150) dL_law_2145 (by decide) (fun _ => ?_) (fun q => absurd q (by decide +kernel))
  refine x_goto (M := (M_law nm)) (tgt := 2449) dL_law_2150 (by decide) ?_
  refine x_iinc (M := (M_law nm)) dL_law_2449 rfl (Nat.le_of_ble_eq_true rfl) rfl ?_
  refine x_lvs (M := (M_law nm)) (lv' := [some (.ref 0), some (.ref 32), some (.ref 277), some (.ref 359), some (.int (Int32.ofInt 7)), some (.int (Int32.ofInt 0)), some (.int (Int32.ofInt 0)), none]) (by rw [(by decide +kernel : (Int32.ofInt 1) + Int32.ofInt 6 = (Int32.ofInt 7))] <;> rfl) ?_
  refine x_goto (M := (M_law nm)) (tgt := 33) dL_law_2452 (by decide) ?_
  refine x_iload (M := (M_law nm)) dL_law_33 rfl ?_
  refine x_aload_n (M := (M_law nm)) dL_law_35 rfl ?_
  refine x_slen (M := (M_law nm)) dL_law_36 (by decide) hx ?_
  refine x_bipush (M := (M_law nm)) dL_law_37 ?_
  refine x_isub (M := (M_law nm)) dL_law_39 ?_
  refine x_icmp_gt (M := (M_law nm)) (tgt := 2455) dL_law_40 (by decide) (fun _ => ?_) (fun q => absurd q (by decide +kernel))
  refine x_iconst (M := (M_law nm)) dL_law_2455 ?_
  exact x_zret (M := (M_law nm)) dL_law_2456 rfl (by decide) rfl (Nat.le_of_ble_eq_true rfl) (Nat.le_of_ble_eq_true rfl)
set_option maxRecDepth 10000 in
theorem q4706 {l : Launch} {E : EE} (hl : l.stackTraces = false) {h : HP} {a0 : Int32} {a1 : Int32} (c0 : ¬ (a0.toInt < 0)) (c1 : a0.toInt < 32) (c2 : ¬ (a1.toInt < 0)) (c3 : ¬ (5 < a1.toInt)) (c4 : ¬ (a1.toInt = 0)) (c5 : a1.toInt = 1) (o4703 : ob h 32 = some (.inr (14, [.ref 33, .ref 162, .ref 166, .int (0 : Int32), .int (0 : Int32), .int (0 : Int32), .ref 167, .ref 170, .ref 173, .ref 177, .ref 193, .ref 208, .ref 222, .ref 238, .ref 252, .ref 274, .ref 275, .ref 276, .int (0 : Int32)]))) (o4704 : ob h 33 = some (.inl (4, 32, .inr (.inr (.inr (.inr (shf 1 32))))))) (o4705 : ob h (34 + 4 * a0.toNatClampNeg) = some (.inr (9, [.ref (35 + 4 * a0.toNatClampNeg), .ref (36 + 4 * a0.toNatClampNeg), .ref (37 + 4 * a0.toNatClampNeg), .int (0 : Int32), .int (0 : Int32)]))) : en_C l E M_X11_count 1 0 0 [.ref 32, .int a0, .int a1] h (pR (some (.int (Int32.ofInt 0))) h) := by
  have n_a0 : a0.toNatClampNeg < 32 := nc_lt (by omega) (by decide)
  refine en_mk m_X11_count rfl hl (Nat.le_of_ble_eq_true rfl) ?_
  refine x_aload_n (M := M_X11_count) dX11_count_0 rfl ?_
  refine x_iload_n (M := M_X11_count) dX11_count_1 rfl ?_
  refine x_callVR (M := M_X11_count) (M' := M_X11_slotNumbered) rfl rfl dX11_count_2 m_X11_slotNumbered t_744 t_746 s_2 (q425 hl c0 c1 o4703 o4704) rfl rfl o4703 rfl (Nat.le_of_ble_eq_true rfl) (Nat.le_of_ble_eq_true rfl) (Nat.le_of_ble_eq_true rfl) (Nat.le_of_ble_eq_true rfl) ?_
  refine x_astore_n (M := M_X11_count) dX11_count_5 (Nat.le_of_ble_eq_true rfl) rfl ?_
  refine x_iload_n (M := M_X11_count) dX11_count_6 rfl ?_
  refine x_tabIn (M := M_X11_count) (tgt := 49) (off := 42) dX11_count_7 (by have e9 : a1.toInt = 1 := (by have e8 : a1.toInt = a1.toInt := rfl; omega); rw [e9] <;> decide) (by have e9 : a1.toInt = 1 := (by have e8 : a1.toInt = a1.toInt := rfl; omega); rw [e9] <;> decide) (by have e9 : a1.toInt = 1 := (by have e8 : a1.toInt = a1.toInt := rfl; omega); rw [e9] <;> rfl) (by decide) ?_
  refine x_aload_n (M := M_X11_count) dX11_count_49 rfl ?_
  refine x_getf (M := M_X11_count) (ci := 9) (C := RX6) (T := TX6) (N := 5) (ty := tyX6) cl9 dX11_count_50 o4705 4 (by decide) t_85 (v := .int (0 : Int32)) rfl ?_
  refine x_top (M := M_X11_count) (y := (Int32.ofInt 0)) (by decide +kernel) ?_
  exact x_iret (M := M_X11_count) dX11_count_53 rfl ⟨rfl, rfl⟩ (Nat.le_of_ble_eq_true rfl) (Nat.le_of_ble_eq_true rfl)
set_option maxRecDepth 10000 in
theorem q4719 {l : Launch} {E : EE} (hl : l.stackTraces = false) {h : HP} {a0 : Int32} {a1 : Int32} (c0 : ¬ (a0.toInt < 0)) (c1 : a0.toInt < 32) (c2 : ¬ (a1.toInt < 0)) (c3 : ¬ (5 < a1.toInt)) (c4 : ¬ (a1.toInt = 0)) (c5 : a1.toInt = 1) (o4707 : ob h 32 = some (.inr (14, [.ref 33, .ref 162, .ref 166, .int (0 : Int32), .int (0 : Int32), .int (0 : Int32), .ref 167, .ref 170, .ref 173, .ref 177, .ref 193, .ref 208, .ref 222, .ref 238, .ref 252, .ref 274, .ref 275, .ref 276, .int (0 : Int32)]))) (o4708 : ob h 33 = some (.inl (4, 32, .inr (.inr (.inr (.inr (shf 1 32))))))) (o4709 : ob h (34 + 4 * a0.toNatClampNeg) = some (.inr (9, [.ref (35 + 4 * a0.toNatClampNeg), .ref (36 + 4 * a0.toNatClampNeg), .ref (37 + 4 * a0.toNatClampNeg), .int (0 : Int32), .int (0 : Int32)]))) (o4714 : ob h 359 = some (.inl (1, 1, .inr (.inl (fun _ => 0))))) : en_C l E M_L_count 2 0 0 [.ref 32, .int a0, .int a1, .ref 359] h (pF (some (.int (Int32.ofInt 0))) [359] h (fun h' => ob h' 359 = some (.inl (1, 1, .inr (.inl (fun _ => 0)))) ∧ True)) := by
  have n_a0 : a0.toNatClampNeg < 32 := nc_lt (by omega) (by decide)
  refine en_mkW m_L_count rfl hl (Nat.le_of_ble_eq_true rfl) ?_
  refine x_aload_n (M := M_L_count) dL_count_0 rfl ?_
  refine x_iconst (M := M_L_count) dL_count_1 ?_
  refine x_aload_n (M := M_L_count) dL_count_2 rfl ?_
  refine x_iload_n (M := M_L_count) dL_count_3 rfl ?_
  refine x_iload_n (M := M_L_count) dL_count_4 rfl ?_
  refine x_callVH (M := M_L_count) (M' := M_X11_count) rfl dL_count_5 m_X11_count t_2294 t_2295 t_2296 o4707 rfl [.int a0, .int a1] rfl rfl (Nat.le_of_ble_eq_true rfl) (q4706 hl c0 c1 c2 c3 c4 c5 o4707 o4708 o4709) (Nat.le_of_ble_eq_true rfl) (Nat.le_of_ble_eq_true rfl) (Nat.le_of_ble_eq_true rfl) (fun N h' hp => nomatch hp.1) (fun v h' hp => ?_)
  obtain ⟨e4713, rfl⟩ := hp
  cases e4713
  refine x_i2l (M := M_L_count) dL_count_8 ?_
  refine x_norm (M := M_L_count) (st' := [.long (Int64.ofInt 0), .int (Int32.ofInt 0), .ref 359]) rfl (vj_cons (by decide +kernel : ((Int32.ofInt 0).toInt64) = (Int64.ofInt 0)) rfl) rfl rfl rfl ?_
  refine y_last (M := M_L_count) (k := 0) dL_count_9 o4714 (vp_inD (by decide +kernel)) (by decide +kernel) (fun h4715 w4716 f4717 => ?_)
  have w4718 : ob h4715 359 = some (.inl (1, 1, .inr (.inl (fun _ => 0)))) := by rw [w4716, uq_z (k := 0)]
  refine x_goto (M := M_L_count) (tgt := 17) dL_count_10 (by decide) ?_
  refine x_iconst (M := M_L_count) dL_count_17 ?_
  exact x_iret (M := M_L_count) dL_count_18 rfl ⟨rfl, (fr_tr f4717 (by decide) fr_rf), ⟨w4718, trivial⟩⟩ (Nat.le_of_ble_eq_true rfl) (Nat.le_of_ble_eq_true rfl)
set_option maxRecDepth 10000 in
theorem q4732 {l : Launch} {E : EE} (hl : l.stackTraces = false) {h : HP} {a1 : Int32} (c0 : ¬ (a1.toInt < 0)) (c1 : ¬ (5 < a1.toInt)) (c2 : ¬ (a1.toInt = 0)) (c3 : a1.toInt = 1) : en_C l E M_X12_in 0 0 0 [.long (a1.toInt64), .long (Int64.ofInt 0), .long (Int64.ofInt 5)] h (pR (some (.int (Int32.ofInt 1))) h) := by
  refine en_mk m_X12_in rfl hl (Nat.le_of_ble_eq_true rfl) ?_
  refine x_lload_n (M := M_X12_in) dX12_in_0 rfl ?_
  refine x_lload_n (M := M_X12_in) dX12_in_1 rfl ?_
  refine x_lcmp (M := M_X12_in) dX12_in_2 ?_
  refine x_if_lt (M := M_X12_in) (tgt := 17) dX12_in_3 (by decide) (fun q => absurd ((bc_lt (i_i2l rfl) (by decide +kernel)).mp q) (by omega : ¬ (a1.toInt < 0))) (fun _ => ?_)
  refine x_lload_n (M := M_X12_in) dX12_in_6 rfl ?_
  refine x_lload (M := M_X12_in) dX12_in_7 rfl ?_
  refine x_lcmp (M := M_X12_in) dX12_in_9 ?_
  refine x_if_gt (M := M_X12_in) (tgt := 17) dX12_in_10 (by decide) (fun q => absurd ((bc_gt (i_i2l rfl) (by decide +kernel)).mp q) (by omega : ¬ (5 < a1.toInt))) (fun _ => ?_)
  refine x_iconst (M := M_X12_in) dX12_in_13 ?_
  refine x_goto (M := M_X12_in) (tgt := 18) dX12_in_14 (by decide) ?_
  exact x_zret (M := M_X12_in) dX12_in_18 rfl (by decide) ⟨rfl, rfl⟩ (Nat.le_of_ble_eq_true rfl) (Nat.le_of_ble_eq_true rfl)
set_option maxRecDepth 10000 in
theorem q4739 {l : Launch} {E : EE} (hl : l.stackTraces = false) {h : HP} {a0 : Int32} {a1 : Int32} {dg : Int32} (c0 : ¬ (a0.toInt < 0)) (c1 : a0.toInt < 32) (c2 : ¬ (a1.toInt < 0)) (c3 : ¬ (5 < a1.toInt)) (c4 : ¬ (a1.toInt = 0)) (c5 : a1.toInt = 1) (o4728 : ob h 277 = some (.inr (15, (RB dg)))) (o4737 : ob h 282 = some (.inl (0, 33, .inl (fun _ => 0)))) : en_C l E M_X12_count 1 0 0 [.ref 277, .int a0, .int a1] h (pF (some (.int (Int32.ofInt 0))) [277] h (fun h' => ob h' 277 = some (.inr (15, ((RB dg).set 0 (.int (Int32.ofInt 0))))) ∧ True)) := by
  refine en_mk m_X12_count rfl hl (Nat.le_of_ble_eq_true rfl) ?_
  refine x_aload_n (M := M_X12_count) dX12_count_0 rfl ?_
  refine x_iconst (M := M_X12_count) dX12_count_1 ?_
  refine y_put (M := M_X12_count) (ci := 15) (C := RX12) (T := TX12) (N := 135) (ty := tyX12) cl15 dX12_count_2 o4728 0 (by decide) t_2391 (Or.inl rfl) (Nat.le_of_ble_eq_true rfl) rfl (fun h4729 w4730 f4731 => ?_)
  refine x_aload_n (M := M_X12_count) dX12_count_5 rfl ?_
  refine x_iload_n (M := M_X12_count) dX12_count_6 rfl ?_
  refine x_callSR (M := M_X12_count) (M' := M_X12_isSlot) rfl rfl dX12_count_7 m_X12_isSlot t_2841 t_2842 (q447 hl c0 c1) rfl rfl (Nat.le_of_ble_eq_true rfl) (Nat.le_of_ble_eq_true rfl) (Nat.le_of_ble_eq_true rfl) (Nat.le_of_ble_eq_true rfl) ?_
  refine x_if_eq (M := M_X12_count) (tgt := 25) dX12_count_10 (by decide) (fun q => absurd q (by decide +kernel)) (fun _ => ?_)
  refine x_iload_n (M := M_X12_count) dX12_count_13 rfl ?_
  refine x_i2l (M := M_X12_count) dX12_count_14 ?_
  refine x_lconst (M := M_X12_count) dX12_count_15 ?_
  refine x_ldc2 (M := M_X12_count) dX12_count_16 t_3118 ?_
  refine x_norm (M := M_X12_count) (st' := [.long (Int64.ofInt 5), .long (Int64.ofInt 0), .long (a1.toInt64), .ref 277]) rfl (vj_cons (by decide +kernel : (5 : Int64) = (Int64.ofInt 5)) (vj_cons (by decide +kernel : (Int64.ofNat ((0 : Fin 2) : Nat)) = (Int64.ofInt 0)) rfl)) rfl rfl rfl ?_
  refine x_callSR (M := M_X12_count) (M' := M_X12_in) rfl rfl dX12_count_19 m_X12_in t_2818 t_2819 (q4732 hl c2 c3 c4 c5) rfl rfl (Nat.le_of_ble_eq_true rfl) (Nat.le_of_ble_eq_true rfl) (Nat.le_of_ble_eq_true rfl) (Nat.le_of_ble_eq_true rfl) ?_
  refine x_if_ne (M := M_X12_count) (tgt := 29) dX12_count_22 (by decide) (fun _ => ?_) (fun q => absurd q (by decide +kernel))
  refine x_iconst (M := M_X12_count) dX12_count_29 ?_
  refine x_iconst (M := M_X12_count) dX12_count_30 ?_
  refine y_callVR (M := M_X12_count) (M' := M_X12_fails) rfl rfl dX12_count_31 m_X12_fails t_2805 t_2807 s_157 (q241 hl w4730) rfl rfl w4730 rfl (Nat.le_of_ble_eq_true rfl) (Nat.le_of_ble_eq_true rfl) (Nat.le_of_ble_eq_true rfl) (Nat.le_of_ble_eq_true rfl) (fun h4733 f4734 w4735 => ?_)
  obtain ⟨o4736, -⟩ := w4735
  refine x_if_eq (M := M_X12_count) (tgt := 39) dX12_count_34 (by decide) (fun _ => ?_) (fun q => absurd q (by decide +kernel))
  refine x_iload_n (M := M_X12_count) dX12_count_39 rfl ?_
  refine x_tabIn (M := M_X12_count) (tgt := 83) (off := 43) dX12_count_40 (by have e9 : a1.toInt = 1 := (by have e8 : a1.toInt = a1.toInt := rfl; omega); rw [e9] <;> decide) (by have e9 : a1.toInt = 1 := (by have e8 : a1.toInt = a1.toInt := rfl; omega); rw [e9] <;> decide) (by have e9 : a1.toInt = 1 := (by have e8 : a1.toInt = a1.toInt := rfl; omega); rw [e9] <;> rfl) (by decide) ?_
  refine x_aload_n (M := M_X12_count) dX12_count_83 rfl ?_
  refine x_getf (M := M_X12_count) (ci := 15) (C := RX12) (T := TX12) (N := 135) (ty := tyX12) cl15 dX12_count_84 o4736 11 (by decide) t_2402 (v := .ref 282) rfl ?_
  refine x_iload_n (M := M_X12_count) dX12_count_87 rfl ?_
  have o4738 := (f4734 282 _ (by decide) (f4731 282 _ (by decide) o4737))
  refine x_iald (M := M_X12_count) dX12_count_88 o4738 (vp_in_s (by omega) (by omega)) ?_
  refine x_top (M := M_X12_count) (y := (Int32.ofInt 0)) rfl ?_
  exact x_iret (M := M_X12_count) dX12_count_89 rfl ⟨rfl, (fr_tr f4734 (by decide) (fr_tr f4731 (by decide) fr_rf)), ⟨o4736, trivial⟩⟩ (Nat.le_of_ble_eq_true rfl) (Nat.le_of_ble_eq_true rfl)
set_option maxRecDepth 10000 in
theorem lc28_4 {l : Launch} {E : EE} (hl : l.stackTraces = false) (nm : String) {xs : Nat → Int32} (hx : E.2.2.2.2 0 = some (7, xs)) {h : HP} {a0 : Int32} {a1 : Int32} {dg : Int32} (e2 : xs 2 = a0) (e3 : xs 3 = a1) (c0 : ¬ (a0.toInt < 0)) (c1 : a0.toInt < 32) (c2 : ¬ (a1.toInt < 0)) (c3 : ¬ (5 < a1.toInt)) (c4 : ¬ (a1.toInt = 0)) (c5 : a1.toInt = 1) (o4720 : ob h 32 = some (.inr (14, [.ref 33, .ref 162, .ref 166, .int (0 : Int32), .int (0 : Int32), .int (0 : Int32), .ref 167, .ref 170, .ref 173, .ref 177, .ref 193, .ref 208, .ref 222, .ref 238, .ref 252, .ref 274, .ref 275, .ref 276, .int (0 : Int32)]))) (o4721 : ob h 33 = some (.inl (4, 32, .inr (.inr (.inr (.inr (shf 1 32))))))) (o4722 : ob h (34 + 4 * a0.toNatClampNeg) = some (.inr (9, [.ref (35 + 4 * a0.toNatClampNeg), .ref (36 + 4 * a0.toNatClampNeg), .ref (37 + 4 * a0.toNatClampNeg), .int (0 : Int32), .int (0 : Int32)]))) (o4723 : ob h 359 = some (.inl (1, 1, .inr (.inl (fun _ => 0))))) (o4740 : ob h 277 = some (.inr (15, (RB dg)))) (o4742 : ob h 282 = some (.inl (0, 33, .inl (fun _ => 0)))) : XX l E (M_law nm) 1312 342628 8074320 (fun o _ => o = .inl (some (.int 1))) 2085 [some (.ref 0), some (.ref 32), some (.ref 277), some (.ref 359), some (.int (Int32.ofInt 1)), none, none, none] [] h 328 2463747 := by
  have n_a0 : a0.toNatClampNeg < 32 := nc_lt (by omega) (by decide)
  refine x_aload_n (M := (M_law nm)) dL_law_2085 rfl ?_
  refine x_aload_n (M := (M_law nm)) dL_law_2086 rfl ?_
  refine x_iload (M := (M_law nm)) dL_law_2087 rfl ?_
  refine x_iconst (M := (M_law nm)) dL_law_2089 ?_
  refine x_iadd (M := (M_law nm)) dL_law_2090 ?_
  refine x_sald (M := (M_law nm)) dL_law_2091 (by decide) hx (vp_inD (by decide +kernel)) ?_
  refine x_top (M := (M_law nm)) (y := a0) ((congrArg xs (by decide +kernel : ((Int32.ofInt 1) + (Int32.ofInt 1)).toNatClampNeg = 2)).trans e2) ?_
  refine x_aload_n (M := (M_law nm)) dL_law_2092 rfl ?_
  refine x_iload (M := (M_law nm)) dL_law_2093 rfl ?_
  refine x_iconst (M := (M_law nm)) dL_law_2095 ?_
  refine x_iadd (M := (M_law nm)) dL_law_2096 ?_
  refine x_sald (M := (M_law nm)) dL_law_2097 (by decide) hx (vp_inD (by decide +kernel)) ?_
  refine x_top (M := (M_law nm)) (y := a1) ((congrArg xs (by decide +kernel : ((Int32.ofInt 1) + (Int32.ofInt 2)).toNatClampNeg = 3)).trans e3) ?_
  refine x_aload_n (M := (M_law nm)) dL_law_2098 rfl ?_
  refine y_callSW (M := (M_law nm)) (M' := M_L_count) rfl rfl dL_law_2099 m_L_count t_2291 t_2292 (q4719 hl c0 c1 c2 c3 c4 c5 o4720 o4721 o4722 o4723) rfl rfl (Nat.le_of_ble_eq_true rfl) (Nat.le_of_ble_eq_true rfl) (Nat.le_of_ble_eq_true rfl) (Nat.le_of_ble_eq_true rfl) (fun h4724 f4725 w4726 => ?_)
  obtain ⟨o4727, -⟩ := w4726
  refine x_istore (M := (M_law nm)) dL_law_2102 (Nat.le_of_ble_eq_true rfl) rfl ?_
  refine x_aload_n (M := (M_law nm)) dL_law_2104 rfl ?_
  refine x_aload_n (M := (M_law nm)) dL_law_2105 rfl ?_
  refine x_iload (M := (M_law nm)) dL_law_2106 rfl ?_
  refine x_iconst (M := (M_law nm)) dL_law_2108 ?_
  refine x_iadd (M := (M_law nm)) dL_law_2109 ?_
  refine x_sald (M := (M_law nm)) dL_law_2110 (by decide) hx (vp_inD (by decide +kernel)) ?_
  refine x_top (M := (M_law nm)) (y := a0) ((congrArg xs (by decide +kernel : ((Int32.ofInt 1) + (Int32.ofInt 1)).toNatClampNeg = 2)).trans e2) ?_
  refine x_aload_n (M := (M_law nm)) dL_law_2111 rfl ?_
  refine x_iload (M := (M_law nm)) dL_law_2112 rfl ?_
  refine x_iconst (M := (M_law nm)) dL_law_2114 ?_
  refine x_iadd (M := (M_law nm)) dL_law_2115 ?_
  refine x_sald (M := (M_law nm)) dL_law_2116 (by decide) hx (vp_inD (by decide +kernel)) ?_
  refine x_top (M := (M_law nm)) (y := a1) ((congrArg xs (by decide +kernel : ((Int32.ofInt 1) + (Int32.ofInt 2)).toNatClampNeg = 3)).trans e3) ?_
  have o4741 := (f4725 277 _ (by decide) o4740)
  have o4743 := (f4725 282 _ (by decide) o4742)
  refine y_callVR (M := (M_law nm)) (M' := M_X12_count) rfl rfl dL_law_2117 m_X12_count t_3114 t_3115 t_3116 (q4739 hl c0 c1 c2 c3 c4 c5 o4741 o4743) rfl rfl o4741 rfl (Nat.le_of_ble_eq_true rfl) (Nat.le_of_ble_eq_true rfl) (Nat.le_of_ble_eq_true rfl) (Nat.le_of_ble_eq_true rfl) (fun h4744 f4745 w4746 => ?_)
  obtain ⟨o4747, -⟩ := w4746
  refine x_istore (M := (M_law nm)) dL_law_2120 (Nat.le_of_ble_eq_true rfl) rfl ?_
  refine x_aload_n (M := (M_law nm)) dL_law_2122 rfl ?_
  refine x_callVR (M := (M_law nm)) (M' := M_X12_thrown) rfl rfl dL_law_2123 m_X12_thrown t_2797 t_2798 t_2799 (q254 hl o4747) rfl rfl o4747 rfl (Nat.le_of_ble_eq_true rfl) (Nat.le_of_ble_eq_true rfl) (Nat.le_of_ble_eq_true rfl) (Nat.le_of_ble_eq_true rfl) ?_
  refine x_iload (M := (M_law nm)) dL_law_2126 rfl ?_
  refine x_icmp_eq (M := (M_law nm)) (tgt := 2133) dL_law_2128 (by decide) (fun _ => ?_) (fun q => absurd q (by decide +kernel))
  refine x_iload (M := (M_law nm)) dL_law_2133 rfl ?_
  refine x_if_ne (M := (M_law nm)) (tgt := 2150) dL_law_2135 (by decide) (fun q => absurd q (by decide +kernel)) (fun _ => ?_)
  refine x_aload_n (M := (M_law nm)) dL_law_2138 rfl ?_
  refine x_iconst (M := (M_law nm)) dL_law_2139 ?_
  have o4748 := (f4745 359 _ (by decide) o4727)
  refine x_lald (M := (M_law nm)) dL_law_2140 o4748 (vp_inD (by decide +kernel)) ?_
  refine x_topl (M := (M_law nm)) (y := (Int64.ofInt 0)) (by decide +kernel) ?_
  refine x_iload (M := (M_law nm)) dL_law_2141 rfl ?_
  refine x_i2l (M := (M_law nm)) dL_law_2143 ?_
  refine x_lcmp (M := (M_law nm)) dL_law_2144 ?_
  refine x_if_eq (M := (M_law nm)) (tgt := 2150) dL_law_2145 (by decide) (fun _ => ?_) (fun q => absurd q (by decide +kernel))
  refine x_goto (M := (M_law nm)) (tgt := 2449) dL_law_2150 (by decide) ?_
  refine x_iinc (M := (M_law nm)) dL_law_2449 rfl (Nat.le_of_ble_eq_true rfl) rfl ?_
  refine x_lvs (M := (M_law nm)) (lv' := [some (.ref 0), some (.ref 32), some (.ref 277), some (.ref 359), some (.int (Int32.ofInt 7)), some (.int (Int32.ofInt 0)), some (.int (Int32.ofInt 0)), none]) (by rw [(by decide +kernel : (Int32.ofInt 1) + Int32.ofInt 6 = (Int32.ofInt 7))] <;> rfl) ?_
  refine x_goto (M := (M_law nm)) (tgt := 33) dL_law_2452 (by decide) ?_
  refine x_iload (M := (M_law nm)) dL_law_33 rfl ?_
  refine x_aload_n (M := (M_law nm)) dL_law_35 rfl ?_
  refine x_slen (M := (M_law nm)) dL_law_36 (by decide) hx ?_
  refine x_bipush (M := (M_law nm)) dL_law_37 ?_
  refine x_isub (M := (M_law nm)) dL_law_39 ?_
  refine x_icmp_gt (M := (M_law nm)) (tgt := 2455) dL_law_40 (by decide) (fun _ => ?_) (fun q => absurd q (by decide +kernel))
  refine x_iconst (M := (M_law nm)) dL_law_2455 ?_
  exact x_zret (M := (M_law nm)) dL_law_2456 rfl (by decide) rfl (Nat.le_of_ble_eq_true rfl) (Nat.le_of_ble_eq_true rfl)
set_option maxRecDepth 10000 in
theorem q4753 {l : Launch} {E : EE} (hl : l.stackTraces = false) {h : HP} {a0 : Int32} {a1 : Int32} (c0 : ¬ (a0.toInt < 0)) (c1 : a0.toInt < 32) (c2 : ¬ (a1.toInt < 0)) (c3 : ¬ (5 < a1.toInt)) (c4 : ¬ (a1.toInt = 0)) (c5 : ¬ (a1.toInt = 1)) (c6 : a1.toInt = 2) (o4751 : ob h 32 = some (.inr (14, [.ref 33, .ref 162, .ref 166, .int (0 : Int32), .int (0 : Int32), .int (0 : Int32), .ref 167, .ref 170, .ref 173, .ref 177, .ref 193, .ref 208, .ref 222, .ref 238, .ref 252, .ref 274, .ref 275, .ref 276, .int (0 : Int32)]))) (o4752 : ob h 33 = some (.inl (4, 32, .inr (.inr (.inr (.inr (shf 1 32))))))) : en_C l E M_X11_count 1 0 0 [.ref 32, .int a0, .int a1] h (pR (some (.int (Int32.ofInt 0))) h) := by
  refine en_mk m_X11_count rfl hl (Nat.le_of_ble_eq_true rfl) ?_
  refine x_aload_n (M := M_X11_count) dX11_count_0 rfl ?_
  refine x_iload_n (M := M_X11_count) dX11_count_1 rfl ?_
  refine x_callVR (M := M_X11_count) (M' := M_X11_slotNumbered) rfl rfl dX11_count_2 m_X11_slotNumbered t_744 t_746 s_2 (q425 hl c0 c1 o4751 o4752) rfl rfl o4751 rfl (Nat.le_of_ble_eq_true rfl) (Nat.le_of_ble_eq_true rfl) (Nat.le_of_ble_eq_true rfl) (Nat.le_of_ble_eq_true rfl) ?_
  refine x_astore_n (M := M_X11_count) dX11_count_5 (Nat.le_of_ble_eq_true rfl) rfl ?_
  refine x_iload_n (M := M_X11_count) dX11_count_6 rfl ?_
  refine x_tabIn (M := M_X11_count) (tgt := 54) (off := 47) dX11_count_7 (by have e9 : a1.toInt = 2 := (by have e8 : a1.toInt = a1.toInt := rfl; omega); rw [e9] <;> decide) (by have e9 : a1.toInt = 2 := (by have e8 : a1.toInt = a1.toInt := rfl; omega); rw [e9] <;> decide) (by have e9 : a1.toInt = 2 := (by have e8 : a1.toInt = a1.toInt := rfl; omega); rw [e9] <;> rfl) (by decide) ?_
  refine x_aload_n (M := M_X11_count) dX11_count_54 rfl ?_
  refine x_getf (M := M_X11_count) (ci := 14) (C := RX11) (T := TX11) (N := 19) (ty := tyX11) cl14 dX11_count_55 o4751 3 (by decide) t_566 (v := .int (0 : Int32)) rfl ?_
  refine x_top (M := M_X11_count) (y := (Int32.ofInt 0)) (by decide +kernel) ?_
  exact x_iret (M := M_X11_count) dX11_count_58 rfl ⟨rfl, rfl⟩ (Nat.le_of_ble_eq_true rfl) (Nat.le_of_ble_eq_true rfl)
set_option maxRecDepth 10000 in
theorem q4765 {l : Launch} {E : EE} (hl : l.stackTraces = false) {h : HP} {a0 : Int32} {a1 : Int32} (c0 : ¬ (a0.toInt < 0)) (c1 : a0.toInt < 32) (c2 : ¬ (a1.toInt < 0)) (c3 : ¬ (5 < a1.toInt)) (c4 : ¬ (a1.toInt = 0)) (c5 : ¬ (a1.toInt = 1)) (c6 : a1.toInt = 2) (o4754 : ob h 32 = some (.inr (14, [.ref 33, .ref 162, .ref 166, .int (0 : Int32), .int (0 : Int32), .int (0 : Int32), .ref 167, .ref 170, .ref 173, .ref 177, .ref 193, .ref 208, .ref 222, .ref 238, .ref 252, .ref 274, .ref 275, .ref 276, .int (0 : Int32)]))) (o4755 : ob h 33 = some (.inl (4, 32, .inr (.inr (.inr (.inr (shf 1 32))))))) (o4760 : ob h 359 = some (.inl (1, 1, .inr (.inl (fun _ => 0))))) : en_C l E M_L_count 2 0 0 [.ref 32, .int a0, .int a1, .ref 359] h (pF (some (.int (Int32.ofInt 0))) [359] h (fun h' => ob h' 359 = some (.inl (1, 1, .inr (.inl (fun _ => 0)))) ∧ True)) := by
  refine en_mkW m_L_count rfl hl (Nat.le_of_ble_eq_true rfl) ?_
  refine x_aload_n (M := M_L_count) dL_count_0 rfl ?_
  refine x_iconst (M := M_L_count) dL_count_1 ?_
  refine x_aload_n (M := M_L_count) dL_count_2 rfl ?_
  refine x_iload_n (M := M_L_count) dL_count_3 rfl ?_
  refine x_iload_n (M := M_L_count) dL_count_4 rfl ?_
  refine x_callVH (M := M_L_count) (M' := M_X11_count) rfl dL_count_5 m_X11_count t_2294 t_2295 t_2296 o4754 rfl [.int a0, .int a1] rfl rfl (Nat.le_of_ble_eq_true rfl) (q4753 hl c0 c1 c2 c3 c4 c5 c6 o4754 o4755) (Nat.le_of_ble_eq_true rfl) (Nat.le_of_ble_eq_true rfl) (Nat.le_of_ble_eq_true rfl) (fun N h' hp => nomatch hp.1) (fun v h' hp => ?_)
  obtain ⟨e4759, rfl⟩ := hp
  cases e4759
  refine x_i2l (M := M_L_count) dL_count_8 ?_
  refine x_norm (M := M_L_count) (st' := [.long (Int64.ofInt 0), .int (Int32.ofInt 0), .ref 359]) rfl (vj_cons (by decide +kernel : ((Int32.ofInt 0).toInt64) = (Int64.ofInt 0)) rfl) rfl rfl rfl ?_
  refine y_last (M := M_L_count) (k := 0) dL_count_9 o4760 (vp_inD (by decide +kernel)) (by decide +kernel) (fun h4761 w4762 f4763 => ?_)
  have w4764 : ob h4761 359 = some (.inl (1, 1, .inr (.inl (fun _ => 0)))) := by rw [w4762, uq_z (k := 0)]
  refine x_goto (M := M_L_count) (tgt := 17) dL_count_10 (by decide) ?_
  refine x_iconst (M := M_L_count) dL_count_17 ?_
  exact x_iret (M := M_L_count) dL_count_18 rfl ⟨rfl, (fr_tr f4763 (by decide) fr_rf), ⟨w4764, trivial⟩⟩ (Nat.le_of_ble_eq_true rfl) (Nat.le_of_ble_eq_true rfl)
set_option maxRecDepth 10000 in
theorem q4777 {l : Launch} {E : EE} (hl : l.stackTraces = false) {h : HP} {a1 : Int32} (c0 : ¬ (a1.toInt < 0)) (c1 : ¬ (5 < a1.toInt)) (c2 : ¬ (a1.toInt = 0)) (c3 : ¬ (a1.toInt = 1)) (c4 : a1.toInt = 2) : en_C l E M_X12_in 0 0 0 [.long (a1.toInt64), .long (Int64.ofInt 0), .long (Int64.ofInt 5)] h (pR (some (.int (Int32.ofInt 1))) h) := by
  refine en_mk m_X12_in rfl hl (Nat.le_of_ble_eq_true rfl) ?_
  refine x_lload_n (M := M_X12_in) dX12_in_0 rfl ?_
  refine x_lload_n (M := M_X12_in) dX12_in_1 rfl ?_
  refine x_lcmp (M := M_X12_in) dX12_in_2 ?_
  refine x_if_lt (M := M_X12_in) (tgt := 17) dX12_in_3 (by decide) (fun q => absurd ((bc_lt (i_i2l rfl) (by decide +kernel)).mp q) (by omega : ¬ (a1.toInt < 0))) (fun _ => ?_)
  refine x_lload_n (M := M_X12_in) dX12_in_6 rfl ?_
  refine x_lload (M := M_X12_in) dX12_in_7 rfl ?_
  refine x_lcmp (M := M_X12_in) dX12_in_9 ?_
  refine x_if_gt (M := M_X12_in) (tgt := 17) dX12_in_10 (by decide) (fun q => absurd ((bc_gt (i_i2l rfl) (by decide +kernel)).mp q) (by omega : ¬ (5 < a1.toInt))) (fun _ => ?_)
  refine x_iconst (M := M_X12_in) dX12_in_13 ?_
  refine x_goto (M := M_X12_in) (tgt := 18) dX12_in_14 (by decide) ?_
  exact x_zret (M := M_X12_in) dX12_in_18 rfl (by decide) ⟨rfl, rfl⟩ (Nat.le_of_ble_eq_true rfl) (Nat.le_of_ble_eq_true rfl)
set_option maxRecDepth 10000 in
theorem q4782 {l : Launch} {E : EE} (hl : l.stackTraces = false) {h : HP} {a0 : Int32} {a1 : Int32} {dg : Int32} (c0 : ¬ (a0.toInt < 0)) (c1 : a0.toInt < 32) (c2 : ¬ (a1.toInt < 0)) (c3 : ¬ (5 < a1.toInt)) (c4 : ¬ (a1.toInt = 0)) (c5 : ¬ (a1.toInt = 1)) (c6 : a1.toInt = 2) (o4773 : ob h 277 = some (.inr (15, (RB dg)))) : en_C l E M_X12_count 1 0 0 [.ref 277, .int a0, .int a1] h (pF (some (.int (Int32.ofInt 0))) [277] h (fun h' => ob h' 277 = some (.inr (15, ((RB dg).set 0 (.int (Int32.ofInt 0))))) ∧ True)) := by
  refine en_mk m_X12_count rfl hl (Nat.le_of_ble_eq_true rfl) ?_
  refine x_aload_n (M := M_X12_count) dX12_count_0 rfl ?_
  refine x_iconst (M := M_X12_count) dX12_count_1 ?_
  refine y_put (M := M_X12_count) (ci := 15) (C := RX12) (T := TX12) (N := 135) (ty := tyX12) cl15 dX12_count_2 o4773 0 (by decide) t_2391 (Or.inl rfl) (Nat.le_of_ble_eq_true rfl) rfl (fun h4774 w4775 f4776 => ?_)
  refine x_aload_n (M := M_X12_count) dX12_count_5 rfl ?_
  refine x_iload_n (M := M_X12_count) dX12_count_6 rfl ?_
  refine x_callSR (M := M_X12_count) (M' := M_X12_isSlot) rfl rfl dX12_count_7 m_X12_isSlot t_2841 t_2842 (q447 hl c0 c1) rfl rfl (Nat.le_of_ble_eq_true rfl) (Nat.le_of_ble_eq_true rfl) (Nat.le_of_ble_eq_true rfl) (Nat.le_of_ble_eq_true rfl) ?_
  refine x_if_eq (M := M_X12_count) (tgt := 25) dX12_count_10 (by decide) (fun q => absurd q (by decide +kernel)) (fun _ => ?_)
  refine x_iload_n (M := M_X12_count) dX12_count_13 rfl ?_
  refine x_i2l (M := M_X12_count) dX12_count_14 ?_
  refine x_lconst (M := M_X12_count) dX12_count_15 ?_
  refine x_ldc2 (M := M_X12_count) dX12_count_16 t_3118 ?_
  refine x_norm (M := M_X12_count) (st' := [.long (Int64.ofInt 5), .long (Int64.ofInt 0), .long (a1.toInt64), .ref 277]) rfl (vj_cons (by decide +kernel : (5 : Int64) = (Int64.ofInt 5)) (vj_cons (by decide +kernel : (Int64.ofNat ((0 : Fin 2) : Nat)) = (Int64.ofInt 0)) rfl)) rfl rfl rfl ?_
  refine x_callSR (M := M_X12_count) (M' := M_X12_in) rfl rfl dX12_count_19 m_X12_in t_2818 t_2819 (q4777 hl c2 c3 c4 c5 c6) rfl rfl (Nat.le_of_ble_eq_true rfl) (Nat.le_of_ble_eq_true rfl) (Nat.le_of_ble_eq_true rfl) (Nat.le_of_ble_eq_true rfl) ?_
  refine x_if_ne (M := M_X12_count) (tgt := 29) dX12_count_22 (by decide) (fun _ => ?_) (fun q => absurd q (by decide +kernel))
  refine x_iconst (M := M_X12_count) dX12_count_29 ?_
  refine x_iconst (M := M_X12_count) dX12_count_30 ?_
  refine y_callVR (M := M_X12_count) (M' := M_X12_fails) rfl rfl dX12_count_31 m_X12_fails t_2805 t_2807 s_157 (q241 hl w4775) rfl rfl w4775 rfl (Nat.le_of_ble_eq_true rfl) (Nat.le_of_ble_eq_true rfl) (Nat.le_of_ble_eq_true rfl) (Nat.le_of_ble_eq_true rfl) (fun h4778 f4779 w4780 => ?_)
  obtain ⟨o4781, -⟩ := w4780
  refine x_if_eq (M := M_X12_count) (tgt := 39) dX12_count_34 (by decide) (fun _ => ?_) (fun q => absurd q (by decide +kernel))
  refine x_iload_n (M := M_X12_count) dX12_count_39 rfl ?_
  refine x_tabIn (M := M_X12_count) (tgt := 90) (off := 50) dX12_count_40 (by have e9 : a1.toInt = 2 := (by have e8 : a1.toInt = a1.toInt := rfl; omega); rw [e9] <;> decide) (by have e9 : a1.toInt = 2 := (by have e8 : a1.toInt = a1.toInt := rfl; omega); rw [e9] <;> decide) (by have e9 : a1.toInt = 2 := (by have e8 : a1.toInt = a1.toInt := rfl; omega); rw [e9] <;> rfl) (by decide) ?_
  refine x_aload_n (M := M_X12_count) dX12_count_90 rfl ?_
  refine x_getf (M := M_X12_count) (ci := 15) (C := RX12) (T := TX12) (N := 135) (ty := tyX12) cl15 dX12_count_91 o4781 4 (by decide) t_2395 (v := .int (0 : Int32)) rfl ?_
  refine x_top (M := M_X12_count) (y := (Int32.ofInt 0)) (by decide +kernel) ?_
  exact x_iret (M := M_X12_count) dX12_count_94 rfl ⟨rfl, (fr_tr f4779 (by decide) (fr_tr f4776 (by decide) fr_rf)), ⟨o4781, trivial⟩⟩ (Nat.le_of_ble_eq_true rfl) (Nat.le_of_ble_eq_true rfl)
set_option maxRecDepth 10000 in
theorem lc28_5 {l : Launch} {E : EE} (hl : l.stackTraces = false) (nm : String) {xs : Nat → Int32} (hx : E.2.2.2.2 0 = some (7, xs)) {h : HP} {a0 : Int32} {a1 : Int32} {dg : Int32} (e2 : xs 2 = a0) (e3 : xs 3 = a1) (c0 : ¬ (a0.toInt < 0)) (c1 : a0.toInt < 32) (c2 : ¬ (a1.toInt < 0)) (c3 : ¬ (5 < a1.toInt)) (c4 : ¬ (a1.toInt = 0)) (c5 : ¬ (a1.toInt = 1)) (c6 : a1.toInt = 2) (o4766 : ob h 32 = some (.inr (14, [.ref 33, .ref 162, .ref 166, .int (0 : Int32), .int (0 : Int32), .int (0 : Int32), .ref 167, .ref 170, .ref 173, .ref 177, .ref 193, .ref 208, .ref 222, .ref 238, .ref 252, .ref 274, .ref 275, .ref 276, .int (0 : Int32)]))) (o4767 : ob h 33 = some (.inl (4, 32, .inr (.inr (.inr (.inr (shf 1 32))))))) (o4768 : ob h 359 = some (.inl (1, 1, .inr (.inl (fun _ => 0))))) (o4783 : ob h 277 = some (.inr (15, (RB dg)))) : XX l E (M_law nm) 1312 342628 8074320 (fun o _ => o = .inl (some (.int 1))) 2085 [some (.ref 0), some (.ref 32), some (.ref 277), some (.ref 359), some (.int (Int32.ofInt 1)), none, none, none] [] h 328 2463747 := by
  refine x_aload_n (M := (M_law nm)) dL_law_2085 rfl ?_
  refine x_aload_n (M := (M_law nm)) dL_law_2086 rfl ?_
  refine x_iload (M := (M_law nm)) dL_law_2087 rfl ?_
  refine x_iconst (M := (M_law nm)) dL_law_2089 ?_
  refine x_iadd (M := (M_law nm)) dL_law_2090 ?_
  refine x_sald (M := (M_law nm)) dL_law_2091 (by decide) hx (vp_inD (by decide +kernel)) ?_
  refine x_top (M := (M_law nm)) (y := a0) ((congrArg xs (by decide +kernel : ((Int32.ofInt 1) + (Int32.ofInt 1)).toNatClampNeg = 2)).trans e2) ?_
  refine x_aload_n (M := (M_law nm)) dL_law_2092 rfl ?_
  refine x_iload (M := (M_law nm)) dL_law_2093 rfl ?_
  refine x_iconst (M := (M_law nm)) dL_law_2095 ?_
  refine x_iadd (M := (M_law nm)) dL_law_2096 ?_
  refine x_sald (M := (M_law nm)) dL_law_2097 (by decide) hx (vp_inD (by decide +kernel)) ?_
  refine x_top (M := (M_law nm)) (y := a1) ((congrArg xs (by decide +kernel : ((Int32.ofInt 1) + (Int32.ofInt 2)).toNatClampNeg = 3)).trans e3) ?_
  refine x_aload_n (M := (M_law nm)) dL_law_2098 rfl ?_
  refine y_callSW (M := (M_law nm)) (M' := M_L_count) rfl rfl dL_law_2099 m_L_count t_2291 t_2292 (q4765 hl c0 c1 c2 c3 c4 c5 c6 o4766 o4767 o4768) rfl rfl (Nat.le_of_ble_eq_true rfl) (Nat.le_of_ble_eq_true rfl) (Nat.le_of_ble_eq_true rfl) (Nat.le_of_ble_eq_true rfl) (fun h4769 f4770 w4771 => ?_)
  obtain ⟨o4772, -⟩ := w4771
  refine x_istore (M := (M_law nm)) dL_law_2102 (Nat.le_of_ble_eq_true rfl) rfl ?_
  refine x_aload_n (M := (M_law nm)) dL_law_2104 rfl ?_
  refine x_aload_n (M := (M_law nm)) dL_law_2105 rfl ?_
  refine x_iload (M := (M_law nm)) dL_law_2106 rfl ?_
  refine x_iconst (M := (M_law nm)) dL_law_2108 ?_
  refine x_iadd (M := (M_law nm)) dL_law_2109 ?_
  refine x_sald (M := (M_law nm)) dL_law_2110 (by decide) hx (vp_inD (by decide +kernel)) ?_
  refine x_top (M := (M_law nm)) (y := a0) ((congrArg xs (by decide +kernel : ((Int32.ofInt 1) + (Int32.ofInt 1)).toNatClampNeg = 2)).trans e2) ?_
  refine x_aload_n (M := (M_law nm)) dL_law_2111 rfl ?_
  refine x_iload (M := (M_law nm)) dL_law_2112 rfl ?_
  refine x_iconst (M := (M_law nm)) dL_law_2114 ?_
  refine x_iadd (M := (M_law nm)) dL_law_2115 ?_
  refine x_sald (M := (M_law nm)) dL_law_2116 (by decide) hx (vp_inD (by decide +kernel)) ?_
  refine x_top (M := (M_law nm)) (y := a1) ((congrArg xs (by decide +kernel : ((Int32.ofInt 1) + (Int32.ofInt 2)).toNatClampNeg = 3)).trans e3) ?_
  have o4784 := (f4770 277 _ (by decide) o4783)
  refine y_callVR (M := (M_law nm)) (M' := M_X12_count) rfl rfl dL_law_2117 m_X12_count t_3114 t_3115 t_3116 (q4782 hl c0 c1 c2 c3 c4 c5 c6 o4784) rfl rfl o4784 rfl (Nat.le_of_ble_eq_true rfl) (Nat.le_of_ble_eq_true rfl) (Nat.le_of_ble_eq_true rfl) (Nat.le_of_ble_eq_true rfl) (fun h4785 f4786 w4787 => ?_)
  obtain ⟨o4788, -⟩ := w4787
  refine x_istore (M := (M_law nm)) dL_law_2120 (Nat.le_of_ble_eq_true rfl) rfl ?_
  refine x_aload_n (M := (M_law nm)) dL_law_2122 rfl ?_
  refine x_callVR (M := (M_law nm)) (M' := M_X12_thrown) rfl rfl dL_law_2123 m_X12_thrown t_2797 t_2798 t_2799 (q254 hl o4788) rfl rfl o4788 rfl (Nat.le_of_ble_eq_true rfl) (Nat.le_of_ble_eq_true rfl) (Nat.le_of_ble_eq_true rfl) (Nat.le_of_ble_eq_true rfl) ?_
  refine x_iload (M := (M_law nm)) dL_law_2126 rfl ?_
  refine x_icmp_eq (M := (M_law nm)) (tgt := 2133) dL_law_2128 (by decide) (fun _ => ?_) (fun q => absurd q (by decide +kernel))
  refine x_iload (M := (M_law nm)) dL_law_2133 rfl ?_
  refine x_if_ne (M := (M_law nm)) (tgt := 2150) dL_law_2135 (by decide) (fun q => absurd q (by decide +kernel)) (fun _ => ?_)
  refine x_aload_n (M := (M_law nm)) dL_law_2138 rfl ?_
  refine x_iconst (M := (M_law nm)) dL_law_2139 ?_
  have o4789 := (f4786 359 _ (by decide) o4772)
  refine x_lald (M := (M_law nm)) dL_law_2140 o4789 (vp_inD (by decide +kernel)) ?_
  refine x_topl (M := (M_law nm)) (y := (Int64.ofInt 0)) (by decide +kernel) ?_
  refine x_iload (M := (M_law nm)) dL_law_2141 rfl ?_
  refine x_i2l (M := (M_law nm)) dL_law_2143 ?_
  refine x_lcmp (M := (M_law nm)) dL_law_2144 ?_
  refine x_if_eq (M := (M_law nm)) (tgt := 2150) dL_law_2145 (by decide) (fun _ => ?_) (fun q => absurd q (by decide +kernel))
  refine x_goto (M := (M_law nm)) (tgt := 2449) dL_law_2150 (by decide) ?_
  refine x_iinc (M := (M_law nm)) dL_law_2449 rfl (Nat.le_of_ble_eq_true rfl) rfl ?_
  refine x_lvs (M := (M_law nm)) (lv' := [some (.ref 0), some (.ref 32), some (.ref 277), some (.ref 359), some (.int (Int32.ofInt 7)), some (.int (Int32.ofInt 0)), some (.int (Int32.ofInt 0)), none]) (by rw [(by decide +kernel : (Int32.ofInt 1) + Int32.ofInt 6 = (Int32.ofInt 7))] <;> rfl) ?_
  refine x_goto (M := (M_law nm)) (tgt := 33) dL_law_2452 (by decide) ?_
  refine x_iload (M := (M_law nm)) dL_law_33 rfl ?_
  refine x_aload_n (M := (M_law nm)) dL_law_35 rfl ?_
  refine x_slen (M := (M_law nm)) dL_law_36 (by decide) hx ?_
  refine x_bipush (M := (M_law nm)) dL_law_37 ?_
  refine x_isub (M := (M_law nm)) dL_law_39 ?_
  refine x_icmp_gt (M := (M_law nm)) (tgt := 2455) dL_law_40 (by decide) (fun _ => ?_) (fun q => absurd q (by decide +kernel))
  refine x_iconst (M := (M_law nm)) dL_law_2455 ?_
  exact x_zret (M := (M_law nm)) dL_law_2456 rfl (by decide) rfl (Nat.le_of_ble_eq_true rfl) (Nat.le_of_ble_eq_true rfl)
set_option maxRecDepth 10000 in
theorem q4795 {l : Launch} {E : EE} (hl : l.stackTraces = false) {h : HP} {a0 : Int32} {a1 : Int32} {dg : Int32} (c0 : ¬ (a0.toInt < 0)) (c1 : a0.toInt < 32) (c2 : ¬ (a1.toInt < 0)) (c3 : ¬ (5 < a1.toInt)) (c4 : ¬ (a1.toInt = 0)) (c5 : ¬ (a1.toInt = 1)) (c6 : ¬ (a1.toInt = 2)) (c7 : a1.toInt = 3) (o4792 : ob h 32 = some (.inr (14, [.ref 33, .ref 162, .ref 166, .int (0 : Int32), .int (0 : Int32), .int (0 : Int32), .ref 167, .ref 170, .ref 173, .ref 177, .ref 193, .ref 208, .ref 222, .ref 238, .ref 252, .ref 274, .ref 275, .ref 276, .int (0 : Int32)]))) (o4793 : ob h 33 = some (.inl (4, 32, .inr (.inr (.inr (.inr (shf 1 32))))))) (o4794 : ob h 173 = some (.inr (13, [.int (dg &&& Int32.ofInt 3), .ref 174, .ref 175, .int (0 : Int32), .ref 176, .int (0 : Int32)]))) : en_C l E M_X11_count 1 0 0 [.ref 32, .int a0, .int a1] h (pR (some (.int (Int32.ofInt 0))) h) := by
  refine en_mk m_X11_count rfl hl (Nat.le_of_ble_eq_true rfl) ?_
  refine x_aload_n (M := M_X11_count) dX11_count_0 rfl ?_
  refine x_iload_n (M := M_X11_count) dX11_count_1 rfl ?_
  refine x_callVR (M := M_X11_count) (M' := M_X11_slotNumbered) rfl rfl dX11_count_2 m_X11_slotNumbered t_744 t_746 s_2 (q425 hl c0 c1 o4792 o4793) rfl rfl o4792 rfl (Nat.le_of_ble_eq_true rfl) (Nat.le_of_ble_eq_true rfl) (Nat.le_of_ble_eq_true rfl) (Nat.le_of_ble_eq_true rfl) ?_
  refine x_astore_n (M := M_X11_count) dX11_count_5 (Nat.le_of_ble_eq_true rfl) rfl ?_
  refine x_iload_n (M := M_X11_count) dX11_count_6 rfl ?_
  refine x_tabIn (M := M_X11_count) (tgt := 59) (off := 52) dX11_count_7 (by have e9 : a1.toInt = 3 := (by have e8 : a1.toInt = a1.toInt := rfl; omega); rw [e9] <;> decide) (by have e9 : a1.toInt = 3 := (by have e8 : a1.toInt = a1.toInt := rfl; omega); rw [e9] <;> decide) (by have e9 : a1.toInt = 3 := (by have e8 : a1.toInt = a1.toInt := rfl; omega); rw [e9] <;> rfl) (by decide) ?_
  refine x_aload_n (M := M_X11_count) dX11_count_59 rfl ?_
  refine x_getf (M := M_X11_count) (ci := 14) (C := RX11) (T := TX11) (N := 19) (ty := tyX11) cl14 dX11_count_60 o4792 8 (by decide) t_571 (v := .ref 173) rfl ?_
  refine x_getf (M := M_X11_count) (ci := 13) (C := RX10) (T := TX10) (N := 6) (ty := tyX10) cl13 dX11_count_63 o4794 5 (by decide) t_208 (v := .int (0 : Int32)) rfl ?_
  refine x_top (M := M_X11_count) (y := (Int32.ofInt 0)) (by decide +kernel) ?_
  exact x_iret (M := M_X11_count) dX11_count_66 rfl ⟨rfl, rfl⟩ (Nat.le_of_ble_eq_true rfl) (Nat.le_of_ble_eq_true rfl)
set_option maxRecDepth 10000 in
theorem q4808 {l : Launch} {E : EE} (hl : l.stackTraces = false) {h : HP} {a0 : Int32} {a1 : Int32} {dg : Int32} (c0 : ¬ (a0.toInt < 0)) (c1 : a0.toInt < 32) (c2 : ¬ (a1.toInt < 0)) (c3 : ¬ (5 < a1.toInt)) (c4 : ¬ (a1.toInt = 0)) (c5 : ¬ (a1.toInt = 1)) (c6 : ¬ (a1.toInt = 2)) (c7 : a1.toInt = 3) (o4796 : ob h 32 = some (.inr (14, [.ref 33, .ref 162, .ref 166, .int (0 : Int32), .int (0 : Int32), .int (0 : Int32), .ref 167, .ref 170, .ref 173, .ref 177, .ref 193, .ref 208, .ref 222, .ref 238, .ref 252, .ref 274, .ref 275, .ref 276, .int (0 : Int32)]))) (o4797 : ob h 33 = some (.inl (4, 32, .inr (.inr (.inr (.inr (shf 1 32))))))) (o4798 : ob h 173 = some (.inr (13, [.int (dg &&& Int32.ofInt 3), .ref 174, .ref 175, .int (0 : Int32), .ref 176, .int (0 : Int32)]))) (o4803 : ob h 359 = some (.inl (1, 1, .inr (.inl (fun _ => 0))))) : en_C l E M_L_count 2 0 0 [.ref 32, .int a0, .int a1, .ref 359] h (pF (some (.int (Int32.ofInt 0))) [359] h (fun h' => ob h' 359 = some (.inl (1, 1, .inr (.inl (fun _ => 0)))) ∧ True)) := by
  refine en_mkW m_L_count rfl hl (Nat.le_of_ble_eq_true rfl) ?_
  refine x_aload_n (M := M_L_count) dL_count_0 rfl ?_
  refine x_iconst (M := M_L_count) dL_count_1 ?_
  refine x_aload_n (M := M_L_count) dL_count_2 rfl ?_
  refine x_iload_n (M := M_L_count) dL_count_3 rfl ?_
  refine x_iload_n (M := M_L_count) dL_count_4 rfl ?_
  refine x_callVH (M := M_L_count) (M' := M_X11_count) rfl dL_count_5 m_X11_count t_2294 t_2295 t_2296 o4796 rfl [.int a0, .int a1] rfl rfl (Nat.le_of_ble_eq_true rfl) (q4795 hl c0 c1 c2 c3 c4 c5 c6 c7 o4796 o4797 o4798) (Nat.le_of_ble_eq_true rfl) (Nat.le_of_ble_eq_true rfl) (Nat.le_of_ble_eq_true rfl) (fun N h' hp => nomatch hp.1) (fun v h' hp => ?_)
  obtain ⟨e4802, rfl⟩ := hp
  cases e4802
  refine x_i2l (M := M_L_count) dL_count_8 ?_
  refine x_norm (M := M_L_count) (st' := [.long (Int64.ofInt 0), .int (Int32.ofInt 0), .ref 359]) rfl (vj_cons (by decide +kernel : ((Int32.ofInt 0).toInt64) = (Int64.ofInt 0)) rfl) rfl rfl rfl ?_
  refine y_last (M := M_L_count) (k := 0) dL_count_9 o4803 (vp_inD (by decide +kernel)) (by decide +kernel) (fun h4804 w4805 f4806 => ?_)
  have w4807 : ob h4804 359 = some (.inl (1, 1, .inr (.inl (fun _ => 0)))) := by rw [w4805, uq_z (k := 0)]
  refine x_goto (M := M_L_count) (tgt := 17) dL_count_10 (by decide) ?_
  refine x_iconst (M := M_L_count) dL_count_17 ?_
  exact x_iret (M := M_L_count) dL_count_18 rfl ⟨rfl, (fr_tr f4806 (by decide) fr_rf), ⟨w4807, trivial⟩⟩ (Nat.le_of_ble_eq_true rfl) (Nat.le_of_ble_eq_true rfl)
set_option maxRecDepth 10000 in
theorem q4821 {l : Launch} {E : EE} (hl : l.stackTraces = false) {h : HP} {a1 : Int32} (c0 : ¬ (a1.toInt < 0)) (c1 : ¬ (5 < a1.toInt)) (c2 : ¬ (a1.toInt = 0)) (c3 : ¬ (a1.toInt = 1)) (c4 : ¬ (a1.toInt = 2)) (c5 : a1.toInt = 3) : en_C l E M_X12_in 0 0 0 [.long (a1.toInt64), .long (Int64.ofInt 0), .long (Int64.ofInt 5)] h (pR (some (.int (Int32.ofInt 1))) h) := by
  refine en_mk m_X12_in rfl hl (Nat.le_of_ble_eq_true rfl) ?_
  refine x_lload_n (M := M_X12_in) dX12_in_0 rfl ?_
  refine x_lload_n (M := M_X12_in) dX12_in_1 rfl ?_
  refine x_lcmp (M := M_X12_in) dX12_in_2 ?_
  refine x_if_lt (M := M_X12_in) (tgt := 17) dX12_in_3 (by decide) (fun q => absurd ((bc_lt (i_i2l rfl) (by decide +kernel)).mp q) (by omega : ¬ (a1.toInt < 0))) (fun _ => ?_)
  refine x_lload_n (M := M_X12_in) dX12_in_6 rfl ?_
  refine x_lload (M := M_X12_in) dX12_in_7 rfl ?_
  refine x_lcmp (M := M_X12_in) dX12_in_9 ?_
  refine x_if_gt (M := M_X12_in) (tgt := 17) dX12_in_10 (by decide) (fun q => absurd ((bc_gt (i_i2l rfl) (by decide +kernel)).mp q) (by omega : ¬ (5 < a1.toInt))) (fun _ => ?_)
  refine x_iconst (M := M_X12_in) dX12_in_13 ?_
  refine x_goto (M := M_X12_in) (tgt := 18) dX12_in_14 (by decide) ?_
  exact x_zret (M := M_X12_in) dX12_in_18 rfl (by decide) ⟨rfl, rfl⟩ (Nat.le_of_ble_eq_true rfl) (Nat.le_of_ble_eq_true rfl)
set_option maxRecDepth 10000 in
theorem q4826 {l : Launch} {E : EE} (hl : l.stackTraces = false) {h : HP} {a0 : Int32} {a1 : Int32} {dg : Int32} (c0 : ¬ (a0.toInt < 0)) (c1 : a0.toInt < 32) (c2 : ¬ (a1.toInt < 0)) (c3 : ¬ (5 < a1.toInt)) (c4 : ¬ (a1.toInt = 0)) (c5 : ¬ (a1.toInt = 1)) (c6 : ¬ (a1.toInt = 2)) (c7 : a1.toInt = 3) (o4817 : ob h 277 = some (.inr (15, (RB dg)))) : en_C l E M_X12_count 1 0 0 [.ref 277, .int a0, .int a1] h (pF (some (.int (Int32.ofInt 0))) [277] h (fun h' => ob h' 277 = some (.inr (15, ((RB dg).set 0 (.int (Int32.ofInt 0))))) ∧ True)) := by
  refine en_mk m_X12_count rfl hl (Nat.le_of_ble_eq_true rfl) ?_
  refine x_aload_n (M := M_X12_count) dX12_count_0 rfl ?_
  refine x_iconst (M := M_X12_count) dX12_count_1 ?_
  refine y_put (M := M_X12_count) (ci := 15) (C := RX12) (T := TX12) (N := 135) (ty := tyX12) cl15 dX12_count_2 o4817 0 (by decide) t_2391 (Or.inl rfl) (Nat.le_of_ble_eq_true rfl) rfl (fun h4818 w4819 f4820 => ?_)
  refine x_aload_n (M := M_X12_count) dX12_count_5 rfl ?_
  refine x_iload_n (M := M_X12_count) dX12_count_6 rfl ?_
  refine x_callSR (M := M_X12_count) (M' := M_X12_isSlot) rfl rfl dX12_count_7 m_X12_isSlot t_2841 t_2842 (q447 hl c0 c1) rfl rfl (Nat.le_of_ble_eq_true rfl) (Nat.le_of_ble_eq_true rfl) (Nat.le_of_ble_eq_true rfl) (Nat.le_of_ble_eq_true rfl) ?_
  refine x_if_eq (M := M_X12_count) (tgt := 25) dX12_count_10 (by decide) (fun q => absurd q (by decide +kernel)) (fun _ => ?_)
  refine x_iload_n (M := M_X12_count) dX12_count_13 rfl ?_
  refine x_i2l (M := M_X12_count) dX12_count_14 ?_
  refine x_lconst (M := M_X12_count) dX12_count_15 ?_
  refine x_ldc2 (M := M_X12_count) dX12_count_16 t_3118 ?_
  refine x_norm (M := M_X12_count) (st' := [.long (Int64.ofInt 5), .long (Int64.ofInt 0), .long (a1.toInt64), .ref 277]) rfl (vj_cons (by decide +kernel : (5 : Int64) = (Int64.ofInt 5)) (vj_cons (by decide +kernel : (Int64.ofNat ((0 : Fin 2) : Nat)) = (Int64.ofInt 0)) rfl)) rfl rfl rfl ?_
  refine x_callSR (M := M_X12_count) (M' := M_X12_in) rfl rfl dX12_count_19 m_X12_in t_2818 t_2819 (q4821 hl c2 c3 c4 c5 c6 c7) rfl rfl (Nat.le_of_ble_eq_true rfl) (Nat.le_of_ble_eq_true rfl) (Nat.le_of_ble_eq_true rfl) (Nat.le_of_ble_eq_true rfl) ?_
  refine x_if_ne (M := M_X12_count) (tgt := 29) dX12_count_22 (by decide) (fun _ => ?_) (fun q => absurd q (by decide +kernel))
  refine x_iconst (M := M_X12_count) dX12_count_29 ?_
  refine x_iconst (M := M_X12_count) dX12_count_30 ?_
  refine y_callVR (M := M_X12_count) (M' := M_X12_fails) rfl rfl dX12_count_31 m_X12_fails t_2805 t_2807 s_157 (q241 hl w4819) rfl rfl w4819 rfl (Nat.le_of_ble_eq_true rfl) (Nat.le_of_ble_eq_true rfl) (Nat.le_of_ble_eq_true rfl) (Nat.le_of_ble_eq_true rfl) (fun h4822 f4823 w4824 => ?_)
  obtain ⟨o4825, -⟩ := w4824
  refine x_if_eq (M := M_X12_count) (tgt := 39) dX12_count_34 (by decide) (fun _ => ?_) (fun q => absurd q (by decide +kernel))
  refine x_iload_n (M := M_X12_count) dX12_count_39 rfl ?_
  refine x_tabIn (M := M_X12_count) (tgt := 95) (off := 55) dX12_count_40 (by have e9 : a1.toInt = 3 := (by have e8 : a1.toInt = a1.toInt := rfl; omega); rw [e9] <;> decide) (by have e9 : a1.toInt = 3 := (by have e8 : a1.toInt = a1.toInt := rfl; omega); rw [e9] <;> decide) (by have e9 : a1.toInt = 3 := (by have e8 : a1.toInt = a1.toInt := rfl; omega); rw [e9] <;> rfl) (by decide) ?_
  refine x_aload_n (M := M_X12_count) dX12_count_95 rfl ?_
  refine x_getf (M := M_X12_count) (ci := 15) (C := RX12) (T := TX12) (N := 135) (ty := tyX12) cl15 dX12_count_96 o4825 6 (by decide) t_2397 (v := .int (0 : Int32)) rfl ?_
  refine x_top (M := M_X12_count) (y := (Int32.ofInt 0)) (by decide +kernel) ?_
  exact x_iret (M := M_X12_count) dX12_count_99 rfl ⟨rfl, (fr_tr f4823 (by decide) (fr_tr f4820 (by decide) fr_rf)), ⟨o4825, trivial⟩⟩ (Nat.le_of_ble_eq_true rfl) (Nat.le_of_ble_eq_true rfl)
set_option maxRecDepth 10000 in
theorem lc28_6 {l : Launch} {E : EE} (hl : l.stackTraces = false) (nm : String) {xs : Nat → Int32} (hx : E.2.2.2.2 0 = some (7, xs)) {h : HP} {a0 : Int32} {a1 : Int32} {dg : Int32} (e2 : xs 2 = a0) (e3 : xs 3 = a1) (c0 : ¬ (a0.toInt < 0)) (c1 : a0.toInt < 32) (c2 : ¬ (a1.toInt < 0)) (c3 : ¬ (5 < a1.toInt)) (c4 : ¬ (a1.toInt = 0)) (c5 : ¬ (a1.toInt = 1)) (c6 : ¬ (a1.toInt = 2)) (c7 : a1.toInt = 3) (o4809 : ob h 32 = some (.inr (14, [.ref 33, .ref 162, .ref 166, .int (0 : Int32), .int (0 : Int32), .int (0 : Int32), .ref 167, .ref 170, .ref 173, .ref 177, .ref 193, .ref 208, .ref 222, .ref 238, .ref 252, .ref 274, .ref 275, .ref 276, .int (0 : Int32)]))) (o4810 : ob h 33 = some (.inl (4, 32, .inr (.inr (.inr (.inr (shf 1 32))))))) (o4811 : ob h 173 = some (.inr (13, [.int (dg &&& Int32.ofInt 3), .ref 174, .ref 175, .int (0 : Int32), .ref 176, .int (0 : Int32)]))) (o4812 : ob h 359 = some (.inl (1, 1, .inr (.inl (fun _ => 0))))) (o4827 : ob h 277 = some (.inr (15, (RB dg)))) : XX l E (M_law nm) 1312 342628 8074320 (fun o _ => o = .inl (some (.int 1))) 2085 [some (.ref 0), some (.ref 32), some (.ref 277), some (.ref 359), some (.int (Int32.ofInt 1)), none, none, none] [] h 328 2463747 := by
  refine x_aload_n (M := (M_law nm)) dL_law_2085 rfl ?_
  refine x_aload_n (M := (M_law nm)) dL_law_2086 rfl ?_
  refine x_iload (M := (M_law nm)) dL_law_2087 rfl ?_
  refine x_iconst (M := (M_law nm)) dL_law_2089 ?_
  refine x_iadd (M := (M_law nm)) dL_law_2090 ?_
  refine x_sald (M := (M_law nm)) dL_law_2091 (by decide) hx (vp_inD (by decide +kernel)) ?_
  refine x_top (M := (M_law nm)) (y := a0) ((congrArg xs (by decide +kernel : ((Int32.ofInt 1) + (Int32.ofInt 1)).toNatClampNeg = 2)).trans e2) ?_
  refine x_aload_n (M := (M_law nm)) dL_law_2092 rfl ?_
  refine x_iload (M := (M_law nm)) dL_law_2093 rfl ?_
  refine x_iconst (M := (M_law nm)) dL_law_2095 ?_
  refine x_iadd (M := (M_law nm)) dL_law_2096 ?_
  refine x_sald (M := (M_law nm)) dL_law_2097 (by decide) hx (vp_inD (by decide +kernel)) ?_
  refine x_top (M := (M_law nm)) (y := a1) ((congrArg xs (by decide +kernel : ((Int32.ofInt 1) + (Int32.ofInt 2)).toNatClampNeg = 3)).trans e3) ?_
  refine x_aload_n (M := (M_law nm)) dL_law_2098 rfl ?_
  refine y_callSW (M := (M_law nm)) (M' := M_L_count) rfl rfl dL_law_2099 m_L_count t_2291 t_2292 (q4808 hl c0 c1 c2 c3 c4 c5 c6 c7 o4809 o4810 o4811 o4812) rfl rfl (Nat.le_of_ble_eq_true rfl) (Nat.le_of_ble_eq_true rfl) (Nat.le_of_ble_eq_true rfl) (Nat.le_of_ble_eq_true rfl) (fun h4813 f4814 w4815 => ?_)
  obtain ⟨o4816, -⟩ := w4815
  refine x_istore (M := (M_law nm)) dL_law_2102 (Nat.le_of_ble_eq_true rfl) rfl ?_
  refine x_aload_n (M := (M_law nm)) dL_law_2104 rfl ?_
  refine x_aload_n (M := (M_law nm)) dL_law_2105 rfl ?_
  refine x_iload (M := (M_law nm)) dL_law_2106 rfl ?_
  refine x_iconst (M := (M_law nm)) dL_law_2108 ?_
  refine x_iadd (M := (M_law nm)) dL_law_2109 ?_
  refine x_sald (M := (M_law nm)) dL_law_2110 (by decide) hx (vp_inD (by decide +kernel)) ?_
  refine x_top (M := (M_law nm)) (y := a0) ((congrArg xs (by decide +kernel : ((Int32.ofInt 1) + (Int32.ofInt 1)).toNatClampNeg = 2)).trans e2) ?_
  refine x_aload_n (M := (M_law nm)) dL_law_2111 rfl ?_
  refine x_iload (M := (M_law nm)) dL_law_2112 rfl ?_
  refine x_iconst (M := (M_law nm)) dL_law_2114 ?_
  refine x_iadd (M := (M_law nm)) dL_law_2115 ?_
  refine x_sald (M := (M_law nm)) dL_law_2116 (by decide) hx (vp_inD (by decide +kernel)) ?_
  refine x_top (M := (M_law nm)) (y := a1) ((congrArg xs (by decide +kernel : ((Int32.ofInt 1) + (Int32.ofInt 2)).toNatClampNeg = 3)).trans e3) ?_
  have o4828 := (f4814 277 _ (by decide) o4827)
  refine y_callVR (M := (M_law nm)) (M' := M_X12_count) rfl rfl dL_law_2117 m_X12_count t_3114 t_3115 t_3116 (q4826 hl c0 c1 c2 c3 c4 c5 c6 c7 o4828) rfl rfl o4828 rfl (Nat.le_of_ble_eq_true rfl) (Nat.le_of_ble_eq_true rfl) (Nat.le_of_ble_eq_true rfl) (Nat.le_of_ble_eq_true rfl) (fun h4829 f4830 w4831 => ?_)
  obtain ⟨o4832, -⟩ := w4831
  refine x_istore (M := (M_law nm)) dL_law_2120 (Nat.le_of_ble_eq_true rfl) rfl ?_
  refine x_aload_n (M := (M_law nm)) dL_law_2122 rfl ?_
  refine x_callVR (M := (M_law nm)) (M' := M_X12_thrown) rfl rfl dL_law_2123 m_X12_thrown t_2797 t_2798 t_2799 (q254 hl o4832) rfl rfl o4832 rfl (Nat.le_of_ble_eq_true rfl) (Nat.le_of_ble_eq_true rfl) (Nat.le_of_ble_eq_true rfl) (Nat.le_of_ble_eq_true rfl) ?_
  refine x_iload (M := (M_law nm)) dL_law_2126 rfl ?_
  refine x_icmp_eq (M := (M_law nm)) (tgt := 2133) dL_law_2128 (by decide) (fun _ => ?_) (fun q => absurd q (by decide +kernel))
  refine x_iload (M := (M_law nm)) dL_law_2133 rfl ?_
  refine x_if_ne (M := (M_law nm)) (tgt := 2150) dL_law_2135 (by decide) (fun q => absurd q (by decide +kernel)) (fun _ => ?_)
  refine x_aload_n (M := (M_law nm)) dL_law_2138 rfl ?_
  refine x_iconst (M := (M_law nm)) dL_law_2139 ?_
  have o4833 := (f4830 359 _ (by decide) o4816)
  refine x_lald (M := (M_law nm)) dL_law_2140 o4833 (vp_inD (by decide +kernel)) ?_
  refine x_topl (M := (M_law nm)) (y := (Int64.ofInt 0)) (by decide +kernel) ?_
  refine x_iload (M := (M_law nm)) dL_law_2141 rfl ?_
  refine x_i2l (M := (M_law nm)) dL_law_2143 ?_
  refine x_lcmp (M := (M_law nm)) dL_law_2144 ?_
  refine x_if_eq (M := (M_law nm)) (tgt := 2150) dL_law_2145 (by decide) (fun _ => ?_) (fun q => absurd q (by decide +kernel))
  refine x_goto (M := (M_law nm)) (tgt := 2449) dL_law_2150 (by decide) ?_
  refine x_iinc (M := (M_law nm)) dL_law_2449 rfl (Nat.le_of_ble_eq_true rfl) rfl ?_
  refine x_lvs (M := (M_law nm)) (lv' := [some (.ref 0), some (.ref 32), some (.ref 277), some (.ref 359), some (.int (Int32.ofInt 7)), some (.int (Int32.ofInt 0)), some (.int (Int32.ofInt 0)), none]) (by rw [(by decide +kernel : (Int32.ofInt 1) + Int32.ofInt 6 = (Int32.ofInt 7))] <;> rfl) ?_
  refine x_goto (M := (M_law nm)) (tgt := 33) dL_law_2452 (by decide) ?_
  refine x_iload (M := (M_law nm)) dL_law_33 rfl ?_
  refine x_aload_n (M := (M_law nm)) dL_law_35 rfl ?_
  refine x_slen (M := (M_law nm)) dL_law_36 (by decide) hx ?_
  refine x_bipush (M := (M_law nm)) dL_law_37 ?_
  refine x_isub (M := (M_law nm)) dL_law_39 ?_
  refine x_icmp_gt (M := (M_law nm)) (tgt := 2455) dL_law_40 (by decide) (fun _ => ?_) (fun q => absurd q (by decide +kernel))
  refine x_iconst (M := (M_law nm)) dL_law_2455 ?_
  exact x_zret (M := (M_law nm)) dL_law_2456 rfl (by decide) rfl (Nat.le_of_ble_eq_true rfl) (Nat.le_of_ble_eq_true rfl)
set_option maxRecDepth 10000 in
theorem q4841 {l : Launch} {E : EE} (hl : l.stackTraces = false) {h : HP} (o4840 : ob h 34 = some (.inr (9, [.ref 35, .ref 36, .ref 37, .int (0 : Int32), .int (0 : Int32)]))) : en_C l E M_X6_isThere 0 0 0 [.ref 34] h (pR (some (.int (Int32.ofInt 0))) h) := by
  refine en_mk m_X6_isThere rfl hl (Nat.le_of_ble_eq_true rfl) ?_
  refine x_aload_n (M := M_X6_isThere) dX6_isThere_0 rfl ?_
  refine x_getf (M := M_X6_isThere) (ci := 9) (C := RX6) (T := TX6) (N := 5) (ty := tyX6) cl9 dX6_isThere_1 o4840 3 (by decide) t_72 (v := .int (0 : Int32)) rfl ?_
  refine x_if_le (M := M_X6_isThere) (tgt := 11) dX6_isThere_4 (by decide) (fun _ => ?_) (fun q => absurd q (by decide +kernel))
  refine x_iconst (M := M_X6_isThere) dX6_isThere_11 ?_
  exact x_zret (M := M_X6_isThere) dX6_isThere_12 rfl (by decide) ⟨rfl, rfl⟩ (Nat.le_of_ble_eq_true rfl) (Nat.le_of_ble_eq_true rfl)
set_option maxRecDepth 10000 in
theorem q4844 {l : Launch} {E : EE} (hl : l.stackTraces = false) {h : HP} (o4843 : ob h 38 = some (.inr (9, [.ref 39, .ref 40, .ref 41, .int (0 : Int32), .int (0 : Int32)]))) : en_C l E M_X6_isThere 0 0 0 [.ref 38] h (pR (some (.int (Int32.ofInt 0))) h) := by
  refine en_mk m_X6_isThere rfl hl (Nat.le_of_ble_eq_true rfl) ?_
  refine x_aload_n (M := M_X6_isThere) dX6_isThere_0 rfl ?_
  refine x_getf (M := M_X6_isThere) (ci := 9) (C := RX6) (T := TX6) (N := 5) (ty := tyX6) cl9 dX6_isThere_1 o4843 3 (by decide) t_72 (v := .int (0 : Int32)) rfl ?_
  refine x_if_le (M := M_X6_isThere) (tgt := 11) dX6_isThere_4 (by decide) (fun _ => ?_) (fun q => absurd q (by decide +kernel))
  refine x_iconst (M := M_X6_isThere) dX6_isThere_11 ?_
  exact x_zret (M := M_X6_isThere) dX6_isThere_12 rfl (by decide) ⟨rfl, rfl⟩ (Nat.le_of_ble_eq_true rfl) (Nat.le_of_ble_eq_true rfl)
set_option maxRecDepth 10000 in
theorem q4847 {l : Launch} {E : EE} (hl : l.stackTraces = false) {h : HP} (o4846 : ob h 42 = some (.inr (9, [.ref 43, .ref 44, .ref 45, .int (0 : Int32), .int (0 : Int32)]))) : en_C l E M_X6_isThere 0 0 0 [.ref 42] h (pR (some (.int (Int32.ofInt 0))) h) := by
  refine en_mk m_X6_isThere rfl hl (Nat.le_of_ble_eq_true rfl) ?_
  refine x_aload_n (M := M_X6_isThere) dX6_isThere_0 rfl ?_
  refine x_getf (M := M_X6_isThere) (ci := 9) (C := RX6) (T := TX6) (N := 5) (ty := tyX6) cl9 dX6_isThere_1 o4846 3 (by decide) t_72 (v := .int (0 : Int32)) rfl ?_
  refine x_if_le (M := M_X6_isThere) (tgt := 11) dX6_isThere_4 (by decide) (fun _ => ?_) (fun q => absurd q (by decide +kernel))
  refine x_iconst (M := M_X6_isThere) dX6_isThere_11 ?_
  exact x_zret (M := M_X6_isThere) dX6_isThere_12 rfl (by decide) ⟨rfl, rfl⟩ (Nat.le_of_ble_eq_true rfl) (Nat.le_of_ble_eq_true rfl)
set_option maxRecDepth 10000 in
theorem q4850 {l : Launch} {E : EE} (hl : l.stackTraces = false) {h : HP} (o4849 : ob h 46 = some (.inr (9, [.ref 47, .ref 48, .ref 49, .int (0 : Int32), .int (0 : Int32)]))) : en_C l E M_X6_isThere 0 0 0 [.ref 46] h (pR (some (.int (Int32.ofInt 0))) h) := by
  refine en_mk m_X6_isThere rfl hl (Nat.le_of_ble_eq_true rfl) ?_
  refine x_aload_n (M := M_X6_isThere) dX6_isThere_0 rfl ?_
  refine x_getf (M := M_X6_isThere) (ci := 9) (C := RX6) (T := TX6) (N := 5) (ty := tyX6) cl9 dX6_isThere_1 o4849 3 (by decide) t_72 (v := .int (0 : Int32)) rfl ?_
  refine x_if_le (M := M_X6_isThere) (tgt := 11) dX6_isThere_4 (by decide) (fun _ => ?_) (fun q => absurd q (by decide +kernel))
  refine x_iconst (M := M_X6_isThere) dX6_isThere_11 ?_
  exact x_zret (M := M_X6_isThere) dX6_isThere_12 rfl (by decide) ⟨rfl, rfl⟩ (Nat.le_of_ble_eq_true rfl) (Nat.le_of_ble_eq_true rfl)
set_option maxRecDepth 10000 in
theorem q4853 {l : Launch} {E : EE} (hl : l.stackTraces = false) {h : HP} (o4852 : ob h 50 = some (.inr (9, [.ref 51, .ref 52, .ref 53, .int (0 : Int32), .int (0 : Int32)]))) : en_C l E M_X6_isThere 0 0 0 [.ref 50] h (pR (some (.int (Int32.ofInt 0))) h) := by
  refine en_mk m_X6_isThere rfl hl (Nat.le_of_ble_eq_true rfl) ?_
  refine x_aload_n (M := M_X6_isThere) dX6_isThere_0 rfl ?_
  refine x_getf (M := M_X6_isThere) (ci := 9) (C := RX6) (T := TX6) (N := 5) (ty := tyX6) cl9 dX6_isThere_1 o4852 3 (by decide) t_72 (v := .int (0 : Int32)) rfl ?_
  refine x_if_le (M := M_X6_isThere) (tgt := 11) dX6_isThere_4 (by decide) (fun _ => ?_) (fun q => absurd q (by decide +kernel))
  refine x_iconst (M := M_X6_isThere) dX6_isThere_11 ?_
  exact x_zret (M := M_X6_isThere) dX6_isThere_12 rfl (by decide) ⟨rfl, rfl⟩ (Nat.le_of_ble_eq_true rfl) (Nat.le_of_ble_eq_true rfl)
set_option maxRecDepth 10000 in
theorem q4856 {l : Launch} {E : EE} (hl : l.stackTraces = false) {h : HP} (o4855 : ob h 54 = some (.inr (9, [.ref 55, .ref 56, .ref 57, .int (0 : Int32), .int (0 : Int32)]))) : en_C l E M_X6_isThere 0 0 0 [.ref 54] h (pR (some (.int (Int32.ofInt 0))) h) := by
  refine en_mk m_X6_isThere rfl hl (Nat.le_of_ble_eq_true rfl) ?_
  refine x_aload_n (M := M_X6_isThere) dX6_isThere_0 rfl ?_
  refine x_getf (M := M_X6_isThere) (ci := 9) (C := RX6) (T := TX6) (N := 5) (ty := tyX6) cl9 dX6_isThere_1 o4855 3 (by decide) t_72 (v := .int (0 : Int32)) rfl ?_
  refine x_if_le (M := M_X6_isThere) (tgt := 11) dX6_isThere_4 (by decide) (fun _ => ?_) (fun q => absurd q (by decide +kernel))
  refine x_iconst (M := M_X6_isThere) dX6_isThere_11 ?_
  exact x_zret (M := M_X6_isThere) dX6_isThere_12 rfl (by decide) ⟨rfl, rfl⟩ (Nat.le_of_ble_eq_true rfl) (Nat.le_of_ble_eq_true rfl)
set_option maxRecDepth 10000 in
theorem q4859 {l : Launch} {E : EE} (hl : l.stackTraces = false) {h : HP} (o4858 : ob h 58 = some (.inr (9, [.ref 59, .ref 60, .ref 61, .int (0 : Int32), .int (0 : Int32)]))) : en_C l E M_X6_isThere 0 0 0 [.ref 58] h (pR (some (.int (Int32.ofInt 0))) h) := by
  refine en_mk m_X6_isThere rfl hl (Nat.le_of_ble_eq_true rfl) ?_
  refine x_aload_n (M := M_X6_isThere) dX6_isThere_0 rfl ?_
  refine x_getf (M := M_X6_isThere) (ci := 9) (C := RX6) (T := TX6) (N := 5) (ty := tyX6) cl9 dX6_isThere_1 o4858 3 (by decide) t_72 (v := .int (0 : Int32)) rfl ?_
  refine x_if_le (M := M_X6_isThere) (tgt := 11) dX6_isThere_4 (by decide) (fun _ => ?_) (fun q => absurd q (by decide +kernel))
  refine x_iconst (M := M_X6_isThere) dX6_isThere_11 ?_
  exact x_zret (M := M_X6_isThere) dX6_isThere_12 rfl (by decide) ⟨rfl, rfl⟩ (Nat.le_of_ble_eq_true rfl) (Nat.le_of_ble_eq_true rfl)
set_option maxRecDepth 10000 in
theorem q4862 {l : Launch} {E : EE} (hl : l.stackTraces = false) {h : HP} (o4861 : ob h 62 = some (.inr (9, [.ref 63, .ref 64, .ref 65, .int (0 : Int32), .int (0 : Int32)]))) : en_C l E M_X6_isThere 0 0 0 [.ref 62] h (pR (some (.int (Int32.ofInt 0))) h) := by
  refine en_mk m_X6_isThere rfl hl (Nat.le_of_ble_eq_true rfl) ?_
  refine x_aload_n (M := M_X6_isThere) dX6_isThere_0 rfl ?_
  refine x_getf (M := M_X6_isThere) (ci := 9) (C := RX6) (T := TX6) (N := 5) (ty := tyX6) cl9 dX6_isThere_1 o4861 3 (by decide) t_72 (v := .int (0 : Int32)) rfl ?_
  refine x_if_le (M := M_X6_isThere) (tgt := 11) dX6_isThere_4 (by decide) (fun _ => ?_) (fun q => absurd q (by decide +kernel))
  refine x_iconst (M := M_X6_isThere) dX6_isThere_11 ?_
  exact x_zret (M := M_X6_isThere) dX6_isThere_12 rfl (by decide) ⟨rfl, rfl⟩ (Nat.le_of_ble_eq_true rfl) (Nat.le_of_ble_eq_true rfl)
set_option maxRecDepth 10000 in
theorem q4865 {l : Launch} {E : EE} (hl : l.stackTraces = false) {h : HP} (o4864 : ob h 66 = some (.inr (9, [.ref 67, .ref 68, .ref 69, .int (0 : Int32), .int (0 : Int32)]))) : en_C l E M_X6_isThere 0 0 0 [.ref 66] h (pR (some (.int (Int32.ofInt 0))) h) := by
  refine en_mk m_X6_isThere rfl hl (Nat.le_of_ble_eq_true rfl) ?_
  refine x_aload_n (M := M_X6_isThere) dX6_isThere_0 rfl ?_
  refine x_getf (M := M_X6_isThere) (ci := 9) (C := RX6) (T := TX6) (N := 5) (ty := tyX6) cl9 dX6_isThere_1 o4864 3 (by decide) t_72 (v := .int (0 : Int32)) rfl ?_
  refine x_if_le (M := M_X6_isThere) (tgt := 11) dX6_isThere_4 (by decide) (fun _ => ?_) (fun q => absurd q (by decide +kernel))
  refine x_iconst (M := M_X6_isThere) dX6_isThere_11 ?_
  exact x_zret (M := M_X6_isThere) dX6_isThere_12 rfl (by decide) ⟨rfl, rfl⟩ (Nat.le_of_ble_eq_true rfl) (Nat.le_of_ble_eq_true rfl)
set_option maxRecDepth 10000 in
theorem q4868 {l : Launch} {E : EE} (hl : l.stackTraces = false) {h : HP} (o4867 : ob h 70 = some (.inr (9, [.ref 71, .ref 72, .ref 73, .int (0 : Int32), .int (0 : Int32)]))) : en_C l E M_X6_isThere 0 0 0 [.ref 70] h (pR (some (.int (Int32.ofInt 0))) h) := by
  refine en_mk m_X6_isThere rfl hl (Nat.le_of_ble_eq_true rfl) ?_
  refine x_aload_n (M := M_X6_isThere) dX6_isThere_0 rfl ?_
  refine x_getf (M := M_X6_isThere) (ci := 9) (C := RX6) (T := TX6) (N := 5) (ty := tyX6) cl9 dX6_isThere_1 o4867 3 (by decide) t_72 (v := .int (0 : Int32)) rfl ?_
  refine x_if_le (M := M_X6_isThere) (tgt := 11) dX6_isThere_4 (by decide) (fun _ => ?_) (fun q => absurd q (by decide +kernel))
  refine x_iconst (M := M_X6_isThere) dX6_isThere_11 ?_
  exact x_zret (M := M_X6_isThere) dX6_isThere_12 rfl (by decide) ⟨rfl, rfl⟩ (Nat.le_of_ble_eq_true rfl) (Nat.le_of_ble_eq_true rfl)
set_option maxRecDepth 10000 in
theorem q4871 {l : Launch} {E : EE} (hl : l.stackTraces = false) {h : HP} (o4870 : ob h 74 = some (.inr (9, [.ref 75, .ref 76, .ref 77, .int (0 : Int32), .int (0 : Int32)]))) : en_C l E M_X6_isThere 0 0 0 [.ref 74] h (pR (some (.int (Int32.ofInt 0))) h) := by
  refine en_mk m_X6_isThere rfl hl (Nat.le_of_ble_eq_true rfl) ?_
  refine x_aload_n (M := M_X6_isThere) dX6_isThere_0 rfl ?_
  refine x_getf (M := M_X6_isThere) (ci := 9) (C := RX6) (T := TX6) (N := 5) (ty := tyX6) cl9 dX6_isThere_1 o4870 3 (by decide) t_72 (v := .int (0 : Int32)) rfl ?_
  refine x_if_le (M := M_X6_isThere) (tgt := 11) dX6_isThere_4 (by decide) (fun _ => ?_) (fun q => absurd q (by decide +kernel))
  refine x_iconst (M := M_X6_isThere) dX6_isThere_11 ?_
  exact x_zret (M := M_X6_isThere) dX6_isThere_12 rfl (by decide) ⟨rfl, rfl⟩ (Nat.le_of_ble_eq_true rfl) (Nat.le_of_ble_eq_true rfl)
set_option maxRecDepth 10000 in
theorem q4874 {l : Launch} {E : EE} (hl : l.stackTraces = false) {h : HP} (o4873 : ob h 78 = some (.inr (9, [.ref 79, .ref 80, .ref 81, .int (0 : Int32), .int (0 : Int32)]))) : en_C l E M_X6_isThere 0 0 0 [.ref 78] h (pR (some (.int (Int32.ofInt 0))) h) := by
  refine en_mk m_X6_isThere rfl hl (Nat.le_of_ble_eq_true rfl) ?_
  refine x_aload_n (M := M_X6_isThere) dX6_isThere_0 rfl ?_
  refine x_getf (M := M_X6_isThere) (ci := 9) (C := RX6) (T := TX6) (N := 5) (ty := tyX6) cl9 dX6_isThere_1 o4873 3 (by decide) t_72 (v := .int (0 : Int32)) rfl ?_
  refine x_if_le (M := M_X6_isThere) (tgt := 11) dX6_isThere_4 (by decide) (fun _ => ?_) (fun q => absurd q (by decide +kernel))
  refine x_iconst (M := M_X6_isThere) dX6_isThere_11 ?_
  exact x_zret (M := M_X6_isThere) dX6_isThere_12 rfl (by decide) ⟨rfl, rfl⟩ (Nat.le_of_ble_eq_true rfl) (Nat.le_of_ble_eq_true rfl)
set_option maxRecDepth 10000 in
theorem q4877 {l : Launch} {E : EE} (hl : l.stackTraces = false) {h : HP} (o4876 : ob h 82 = some (.inr (9, [.ref 83, .ref 84, .ref 85, .int (0 : Int32), .int (0 : Int32)]))) : en_C l E M_X6_isThere 0 0 0 [.ref 82] h (pR (some (.int (Int32.ofInt 0))) h) := by
  refine en_mk m_X6_isThere rfl hl (Nat.le_of_ble_eq_true rfl) ?_
  refine x_aload_n (M := M_X6_isThere) dX6_isThere_0 rfl ?_
  refine x_getf (M := M_X6_isThere) (ci := 9) (C := RX6) (T := TX6) (N := 5) (ty := tyX6) cl9 dX6_isThere_1 o4876 3 (by decide) t_72 (v := .int (0 : Int32)) rfl ?_
  refine x_if_le (M := M_X6_isThere) (tgt := 11) dX6_isThere_4 (by decide) (fun _ => ?_) (fun q => absurd q (by decide +kernel))
  refine x_iconst (M := M_X6_isThere) dX6_isThere_11 ?_
  exact x_zret (M := M_X6_isThere) dX6_isThere_12 rfl (by decide) ⟨rfl, rfl⟩ (Nat.le_of_ble_eq_true rfl) (Nat.le_of_ble_eq_true rfl)
set_option maxRecDepth 10000 in
theorem q4880 {l : Launch} {E : EE} (hl : l.stackTraces = false) {h : HP} (o4879 : ob h 86 = some (.inr (9, [.ref 87, .ref 88, .ref 89, .int (0 : Int32), .int (0 : Int32)]))) : en_C l E M_X6_isThere 0 0 0 [.ref 86] h (pR (some (.int (Int32.ofInt 0))) h) := by
  refine en_mk m_X6_isThere rfl hl (Nat.le_of_ble_eq_true rfl) ?_
  refine x_aload_n (M := M_X6_isThere) dX6_isThere_0 rfl ?_
  refine x_getf (M := M_X6_isThere) (ci := 9) (C := RX6) (T := TX6) (N := 5) (ty := tyX6) cl9 dX6_isThere_1 o4879 3 (by decide) t_72 (v := .int (0 : Int32)) rfl ?_
  refine x_if_le (M := M_X6_isThere) (tgt := 11) dX6_isThere_4 (by decide) (fun _ => ?_) (fun q => absurd q (by decide +kernel))
  refine x_iconst (M := M_X6_isThere) dX6_isThere_11 ?_
  exact x_zret (M := M_X6_isThere) dX6_isThere_12 rfl (by decide) ⟨rfl, rfl⟩ (Nat.le_of_ble_eq_true rfl) (Nat.le_of_ble_eq_true rfl)
set_option maxRecDepth 10000 in
theorem q4883 {l : Launch} {E : EE} (hl : l.stackTraces = false) {h : HP} (o4882 : ob h 90 = some (.inr (9, [.ref 91, .ref 92, .ref 93, .int (0 : Int32), .int (0 : Int32)]))) : en_C l E M_X6_isThere 0 0 0 [.ref 90] h (pR (some (.int (Int32.ofInt 0))) h) := by
  refine en_mk m_X6_isThere rfl hl (Nat.le_of_ble_eq_true rfl) ?_
  refine x_aload_n (M := M_X6_isThere) dX6_isThere_0 rfl ?_
  refine x_getf (M := M_X6_isThere) (ci := 9) (C := RX6) (T := TX6) (N := 5) (ty := tyX6) cl9 dX6_isThere_1 o4882 3 (by decide) t_72 (v := .int (0 : Int32)) rfl ?_
  refine x_if_le (M := M_X6_isThere) (tgt := 11) dX6_isThere_4 (by decide) (fun _ => ?_) (fun q => absurd q (by decide +kernel))
  refine x_iconst (M := M_X6_isThere) dX6_isThere_11 ?_
  exact x_zret (M := M_X6_isThere) dX6_isThere_12 rfl (by decide) ⟨rfl, rfl⟩ (Nat.le_of_ble_eq_true rfl) (Nat.le_of_ble_eq_true rfl)
set_option maxRecDepth 10000 in
theorem q4886 {l : Launch} {E : EE} (hl : l.stackTraces = false) {h : HP} (o4885 : ob h 94 = some (.inr (9, [.ref 95, .ref 96, .ref 97, .int (0 : Int32), .int (0 : Int32)]))) : en_C l E M_X6_isThere 0 0 0 [.ref 94] h (pR (some (.int (Int32.ofInt 0))) h) := by
  refine en_mk m_X6_isThere rfl hl (Nat.le_of_ble_eq_true rfl) ?_
  refine x_aload_n (M := M_X6_isThere) dX6_isThere_0 rfl ?_
  refine x_getf (M := M_X6_isThere) (ci := 9) (C := RX6) (T := TX6) (N := 5) (ty := tyX6) cl9 dX6_isThere_1 o4885 3 (by decide) t_72 (v := .int (0 : Int32)) rfl ?_
  refine x_if_le (M := M_X6_isThere) (tgt := 11) dX6_isThere_4 (by decide) (fun _ => ?_) (fun q => absurd q (by decide +kernel))
  refine x_iconst (M := M_X6_isThere) dX6_isThere_11 ?_
  exact x_zret (M := M_X6_isThere) dX6_isThere_12 rfl (by decide) ⟨rfl, rfl⟩ (Nat.le_of_ble_eq_true rfl) (Nat.le_of_ble_eq_true rfl)
set_option maxRecDepth 10000 in
theorem q4889 {l : Launch} {E : EE} (hl : l.stackTraces = false) {h : HP} (o4888 : ob h 98 = some (.inr (9, [.ref 99, .ref 100, .ref 101, .int (0 : Int32), .int (0 : Int32)]))) : en_C l E M_X6_isThere 0 0 0 [.ref 98] h (pR (some (.int (Int32.ofInt 0))) h) := by
  refine en_mk m_X6_isThere rfl hl (Nat.le_of_ble_eq_true rfl) ?_
  refine x_aload_n (M := M_X6_isThere) dX6_isThere_0 rfl ?_
  refine x_getf (M := M_X6_isThere) (ci := 9) (C := RX6) (T := TX6) (N := 5) (ty := tyX6) cl9 dX6_isThere_1 o4888 3 (by decide) t_72 (v := .int (0 : Int32)) rfl ?_
  refine x_if_le (M := M_X6_isThere) (tgt := 11) dX6_isThere_4 (by decide) (fun _ => ?_) (fun q => absurd q (by decide +kernel))
  refine x_iconst (M := M_X6_isThere) dX6_isThere_11 ?_
  exact x_zret (M := M_X6_isThere) dX6_isThere_12 rfl (by decide) ⟨rfl, rfl⟩ (Nat.le_of_ble_eq_true rfl) (Nat.le_of_ble_eq_true rfl)
set_option maxRecDepth 10000 in
theorem q4892 {l : Launch} {E : EE} (hl : l.stackTraces = false) {h : HP} (o4891 : ob h 102 = some (.inr (9, [.ref 103, .ref 104, .ref 105, .int (0 : Int32), .int (0 : Int32)]))) : en_C l E M_X6_isThere 0 0 0 [.ref 102] h (pR (some (.int (Int32.ofInt 0))) h) := by
  refine en_mk m_X6_isThere rfl hl (Nat.le_of_ble_eq_true rfl) ?_
  refine x_aload_n (M := M_X6_isThere) dX6_isThere_0 rfl ?_
  refine x_getf (M := M_X6_isThere) (ci := 9) (C := RX6) (T := TX6) (N := 5) (ty := tyX6) cl9 dX6_isThere_1 o4891 3 (by decide) t_72 (v := .int (0 : Int32)) rfl ?_
  refine x_if_le (M := M_X6_isThere) (tgt := 11) dX6_isThere_4 (by decide) (fun _ => ?_) (fun q => absurd q (by decide +kernel))
  refine x_iconst (M := M_X6_isThere) dX6_isThere_11 ?_
  exact x_zret (M := M_X6_isThere) dX6_isThere_12 rfl (by decide) ⟨rfl, rfl⟩ (Nat.le_of_ble_eq_true rfl) (Nat.le_of_ble_eq_true rfl)
set_option maxRecDepth 10000 in
theorem q4895 {l : Launch} {E : EE} (hl : l.stackTraces = false) {h : HP} (o4894 : ob h 106 = some (.inr (9, [.ref 107, .ref 108, .ref 109, .int (0 : Int32), .int (0 : Int32)]))) : en_C l E M_X6_isThere 0 0 0 [.ref 106] h (pR (some (.int (Int32.ofInt 0))) h) := by
  refine en_mk m_X6_isThere rfl hl (Nat.le_of_ble_eq_true rfl) ?_
  refine x_aload_n (M := M_X6_isThere) dX6_isThere_0 rfl ?_
  refine x_getf (M := M_X6_isThere) (ci := 9) (C := RX6) (T := TX6) (N := 5) (ty := tyX6) cl9 dX6_isThere_1 o4894 3 (by decide) t_72 (v := .int (0 : Int32)) rfl ?_
  refine x_if_le (M := M_X6_isThere) (tgt := 11) dX6_isThere_4 (by decide) (fun _ => ?_) (fun q => absurd q (by decide +kernel))
  refine x_iconst (M := M_X6_isThere) dX6_isThere_11 ?_
  exact x_zret (M := M_X6_isThere) dX6_isThere_12 rfl (by decide) ⟨rfl, rfl⟩ (Nat.le_of_ble_eq_true rfl) (Nat.le_of_ble_eq_true rfl)
set_option maxRecDepth 10000 in
theorem q4898 {l : Launch} {E : EE} (hl : l.stackTraces = false) {h : HP} (o4897 : ob h 110 = some (.inr (9, [.ref 111, .ref 112, .ref 113, .int (0 : Int32), .int (0 : Int32)]))) : en_C l E M_X6_isThere 0 0 0 [.ref 110] h (pR (some (.int (Int32.ofInt 0))) h) := by
  refine en_mk m_X6_isThere rfl hl (Nat.le_of_ble_eq_true rfl) ?_
  refine x_aload_n (M := M_X6_isThere) dX6_isThere_0 rfl ?_
  refine x_getf (M := M_X6_isThere) (ci := 9) (C := RX6) (T := TX6) (N := 5) (ty := tyX6) cl9 dX6_isThere_1 o4897 3 (by decide) t_72 (v := .int (0 : Int32)) rfl ?_
  refine x_if_le (M := M_X6_isThere) (tgt := 11) dX6_isThere_4 (by decide) (fun _ => ?_) (fun q => absurd q (by decide +kernel))
  refine x_iconst (M := M_X6_isThere) dX6_isThere_11 ?_
  exact x_zret (M := M_X6_isThere) dX6_isThere_12 rfl (by decide) ⟨rfl, rfl⟩ (Nat.le_of_ble_eq_true rfl) (Nat.le_of_ble_eq_true rfl)
set_option maxRecDepth 10000 in
theorem q4901 {l : Launch} {E : EE} (hl : l.stackTraces = false) {h : HP} (o4900 : ob h 114 = some (.inr (9, [.ref 115, .ref 116, .ref 117, .int (0 : Int32), .int (0 : Int32)]))) : en_C l E M_X6_isThere 0 0 0 [.ref 114] h (pR (some (.int (Int32.ofInt 0))) h) := by
  refine en_mk m_X6_isThere rfl hl (Nat.le_of_ble_eq_true rfl) ?_
  refine x_aload_n (M := M_X6_isThere) dX6_isThere_0 rfl ?_
  refine x_getf (M := M_X6_isThere) (ci := 9) (C := RX6) (T := TX6) (N := 5) (ty := tyX6) cl9 dX6_isThere_1 o4900 3 (by decide) t_72 (v := .int (0 : Int32)) rfl ?_
  refine x_if_le (M := M_X6_isThere) (tgt := 11) dX6_isThere_4 (by decide) (fun _ => ?_) (fun q => absurd q (by decide +kernel))
  refine x_iconst (M := M_X6_isThere) dX6_isThere_11 ?_
  exact x_zret (M := M_X6_isThere) dX6_isThere_12 rfl (by decide) ⟨rfl, rfl⟩ (Nat.le_of_ble_eq_true rfl) (Nat.le_of_ble_eq_true rfl)
set_option maxRecDepth 10000 in
theorem q4904 {l : Launch} {E : EE} (hl : l.stackTraces = false) {h : HP} (o4903 : ob h 118 = some (.inr (9, [.ref 119, .ref 120, .ref 121, .int (0 : Int32), .int (0 : Int32)]))) : en_C l E M_X6_isThere 0 0 0 [.ref 118] h (pR (some (.int (Int32.ofInt 0))) h) := by
  refine en_mk m_X6_isThere rfl hl (Nat.le_of_ble_eq_true rfl) ?_
  refine x_aload_n (M := M_X6_isThere) dX6_isThere_0 rfl ?_
  refine x_getf (M := M_X6_isThere) (ci := 9) (C := RX6) (T := TX6) (N := 5) (ty := tyX6) cl9 dX6_isThere_1 o4903 3 (by decide) t_72 (v := .int (0 : Int32)) rfl ?_
  refine x_if_le (M := M_X6_isThere) (tgt := 11) dX6_isThere_4 (by decide) (fun _ => ?_) (fun q => absurd q (by decide +kernel))
  refine x_iconst (M := M_X6_isThere) dX6_isThere_11 ?_
  exact x_zret (M := M_X6_isThere) dX6_isThere_12 rfl (by decide) ⟨rfl, rfl⟩ (Nat.le_of_ble_eq_true rfl) (Nat.le_of_ble_eq_true rfl)
set_option maxRecDepth 10000 in
theorem q4907 {l : Launch} {E : EE} (hl : l.stackTraces = false) {h : HP} (o4906 : ob h 122 = some (.inr (9, [.ref 123, .ref 124, .ref 125, .int (0 : Int32), .int (0 : Int32)]))) : en_C l E M_X6_isThere 0 0 0 [.ref 122] h (pR (some (.int (Int32.ofInt 0))) h) := by
  refine en_mk m_X6_isThere rfl hl (Nat.le_of_ble_eq_true rfl) ?_
  refine x_aload_n (M := M_X6_isThere) dX6_isThere_0 rfl ?_
  refine x_getf (M := M_X6_isThere) (ci := 9) (C := RX6) (T := TX6) (N := 5) (ty := tyX6) cl9 dX6_isThere_1 o4906 3 (by decide) t_72 (v := .int (0 : Int32)) rfl ?_
  refine x_if_le (M := M_X6_isThere) (tgt := 11) dX6_isThere_4 (by decide) (fun _ => ?_) (fun q => absurd q (by decide +kernel))
  refine x_iconst (M := M_X6_isThere) dX6_isThere_11 ?_
  exact x_zret (M := M_X6_isThere) dX6_isThere_12 rfl (by decide) ⟨rfl, rfl⟩ (Nat.le_of_ble_eq_true rfl) (Nat.le_of_ble_eq_true rfl)
set_option maxRecDepth 10000 in
theorem q4910 {l : Launch} {E : EE} (hl : l.stackTraces = false) {h : HP} (o4909 : ob h 126 = some (.inr (9, [.ref 127, .ref 128, .ref 129, .int (0 : Int32), .int (0 : Int32)]))) : en_C l E M_X6_isThere 0 0 0 [.ref 126] h (pR (some (.int (Int32.ofInt 0))) h) := by
  refine en_mk m_X6_isThere rfl hl (Nat.le_of_ble_eq_true rfl) ?_
  refine x_aload_n (M := M_X6_isThere) dX6_isThere_0 rfl ?_
  refine x_getf (M := M_X6_isThere) (ci := 9) (C := RX6) (T := TX6) (N := 5) (ty := tyX6) cl9 dX6_isThere_1 o4909 3 (by decide) t_72 (v := .int (0 : Int32)) rfl ?_
  refine x_if_le (M := M_X6_isThere) (tgt := 11) dX6_isThere_4 (by decide) (fun _ => ?_) (fun q => absurd q (by decide +kernel))
  refine x_iconst (M := M_X6_isThere) dX6_isThere_11 ?_
  exact x_zret (M := M_X6_isThere) dX6_isThere_12 rfl (by decide) ⟨rfl, rfl⟩ (Nat.le_of_ble_eq_true rfl) (Nat.le_of_ble_eq_true rfl)
set_option maxRecDepth 10000 in
theorem q4913 {l : Launch} {E : EE} (hl : l.stackTraces = false) {h : HP} (o4912 : ob h 130 = some (.inr (9, [.ref 131, .ref 132, .ref 133, .int (0 : Int32), .int (0 : Int32)]))) : en_C l E M_X6_isThere 0 0 0 [.ref 130] h (pR (some (.int (Int32.ofInt 0))) h) := by
  refine en_mk m_X6_isThere rfl hl (Nat.le_of_ble_eq_true rfl) ?_
  refine x_aload_n (M := M_X6_isThere) dX6_isThere_0 rfl ?_
  refine x_getf (M := M_X6_isThere) (ci := 9) (C := RX6) (T := TX6) (N := 5) (ty := tyX6) cl9 dX6_isThere_1 o4912 3 (by decide) t_72 (v := .int (0 : Int32)) rfl ?_
  refine x_if_le (M := M_X6_isThere) (tgt := 11) dX6_isThere_4 (by decide) (fun _ => ?_) (fun q => absurd q (by decide +kernel))
  refine x_iconst (M := M_X6_isThere) dX6_isThere_11 ?_
  exact x_zret (M := M_X6_isThere) dX6_isThere_12 rfl (by decide) ⟨rfl, rfl⟩ (Nat.le_of_ble_eq_true rfl) (Nat.le_of_ble_eq_true rfl)
set_option maxRecDepth 10000 in
theorem q4916 {l : Launch} {E : EE} (hl : l.stackTraces = false) {h : HP} (o4915 : ob h 134 = some (.inr (9, [.ref 135, .ref 136, .ref 137, .int (0 : Int32), .int (0 : Int32)]))) : en_C l E M_X6_isThere 0 0 0 [.ref 134] h (pR (some (.int (Int32.ofInt 0))) h) := by
  refine en_mk m_X6_isThere rfl hl (Nat.le_of_ble_eq_true rfl) ?_
  refine x_aload_n (M := M_X6_isThere) dX6_isThere_0 rfl ?_
  refine x_getf (M := M_X6_isThere) (ci := 9) (C := RX6) (T := TX6) (N := 5) (ty := tyX6) cl9 dX6_isThere_1 o4915 3 (by decide) t_72 (v := .int (0 : Int32)) rfl ?_
  refine x_if_le (M := M_X6_isThere) (tgt := 11) dX6_isThere_4 (by decide) (fun _ => ?_) (fun q => absurd q (by decide +kernel))
  refine x_iconst (M := M_X6_isThere) dX6_isThere_11 ?_
  exact x_zret (M := M_X6_isThere) dX6_isThere_12 rfl (by decide) ⟨rfl, rfl⟩ (Nat.le_of_ble_eq_true rfl) (Nat.le_of_ble_eq_true rfl)
set_option maxRecDepth 10000 in
theorem q4919 {l : Launch} {E : EE} (hl : l.stackTraces = false) {h : HP} (o4918 : ob h 138 = some (.inr (9, [.ref 139, .ref 140, .ref 141, .int (0 : Int32), .int (0 : Int32)]))) : en_C l E M_X6_isThere 0 0 0 [.ref 138] h (pR (some (.int (Int32.ofInt 0))) h) := by
  refine en_mk m_X6_isThere rfl hl (Nat.le_of_ble_eq_true rfl) ?_
  refine x_aload_n (M := M_X6_isThere) dX6_isThere_0 rfl ?_
  refine x_getf (M := M_X6_isThere) (ci := 9) (C := RX6) (T := TX6) (N := 5) (ty := tyX6) cl9 dX6_isThere_1 o4918 3 (by decide) t_72 (v := .int (0 : Int32)) rfl ?_
  refine x_if_le (M := M_X6_isThere) (tgt := 11) dX6_isThere_4 (by decide) (fun _ => ?_) (fun q => absurd q (by decide +kernel))
  refine x_iconst (M := M_X6_isThere) dX6_isThere_11 ?_
  exact x_zret (M := M_X6_isThere) dX6_isThere_12 rfl (by decide) ⟨rfl, rfl⟩ (Nat.le_of_ble_eq_true rfl) (Nat.le_of_ble_eq_true rfl)
set_option maxRecDepth 10000 in
theorem q4922 {l : Launch} {E : EE} (hl : l.stackTraces = false) {h : HP} (o4921 : ob h 142 = some (.inr (9, [.ref 143, .ref 144, .ref 145, .int (0 : Int32), .int (0 : Int32)]))) : en_C l E M_X6_isThere 0 0 0 [.ref 142] h (pR (some (.int (Int32.ofInt 0))) h) := by
  refine en_mk m_X6_isThere rfl hl (Nat.le_of_ble_eq_true rfl) ?_
  refine x_aload_n (M := M_X6_isThere) dX6_isThere_0 rfl ?_
  refine x_getf (M := M_X6_isThere) (ci := 9) (C := RX6) (T := TX6) (N := 5) (ty := tyX6) cl9 dX6_isThere_1 o4921 3 (by decide) t_72 (v := .int (0 : Int32)) rfl ?_
  refine x_if_le (M := M_X6_isThere) (tgt := 11) dX6_isThere_4 (by decide) (fun _ => ?_) (fun q => absurd q (by decide +kernel))
  refine x_iconst (M := M_X6_isThere) dX6_isThere_11 ?_
  exact x_zret (M := M_X6_isThere) dX6_isThere_12 rfl (by decide) ⟨rfl, rfl⟩ (Nat.le_of_ble_eq_true rfl) (Nat.le_of_ble_eq_true rfl)
set_option maxRecDepth 10000 in
theorem q4925 {l : Launch} {E : EE} (hl : l.stackTraces = false) {h : HP} (o4924 : ob h 146 = some (.inr (9, [.ref 147, .ref 148, .ref 149, .int (0 : Int32), .int (0 : Int32)]))) : en_C l E M_X6_isThere 0 0 0 [.ref 146] h (pR (some (.int (Int32.ofInt 0))) h) := by
  refine en_mk m_X6_isThere rfl hl (Nat.le_of_ble_eq_true rfl) ?_
  refine x_aload_n (M := M_X6_isThere) dX6_isThere_0 rfl ?_
  refine x_getf (M := M_X6_isThere) (ci := 9) (C := RX6) (T := TX6) (N := 5) (ty := tyX6) cl9 dX6_isThere_1 o4924 3 (by decide) t_72 (v := .int (0 : Int32)) rfl ?_
  refine x_if_le (M := M_X6_isThere) (tgt := 11) dX6_isThere_4 (by decide) (fun _ => ?_) (fun q => absurd q (by decide +kernel))
  refine x_iconst (M := M_X6_isThere) dX6_isThere_11 ?_
  exact x_zret (M := M_X6_isThere) dX6_isThere_12 rfl (by decide) ⟨rfl, rfl⟩ (Nat.le_of_ble_eq_true rfl) (Nat.le_of_ble_eq_true rfl)
set_option maxRecDepth 10000 in
theorem q4928 {l : Launch} {E : EE} (hl : l.stackTraces = false) {h : HP} (o4927 : ob h 150 = some (.inr (9, [.ref 151, .ref 152, .ref 153, .int (0 : Int32), .int (0 : Int32)]))) : en_C l E M_X6_isThere 0 0 0 [.ref 150] h (pR (some (.int (Int32.ofInt 0))) h) := by
  refine en_mk m_X6_isThere rfl hl (Nat.le_of_ble_eq_true rfl) ?_
  refine x_aload_n (M := M_X6_isThere) dX6_isThere_0 rfl ?_
  refine x_getf (M := M_X6_isThere) (ci := 9) (C := RX6) (T := TX6) (N := 5) (ty := tyX6) cl9 dX6_isThere_1 o4927 3 (by decide) t_72 (v := .int (0 : Int32)) rfl ?_
  refine x_if_le (M := M_X6_isThere) (tgt := 11) dX6_isThere_4 (by decide) (fun _ => ?_) (fun q => absurd q (by decide +kernel))
  refine x_iconst (M := M_X6_isThere) dX6_isThere_11 ?_
  exact x_zret (M := M_X6_isThere) dX6_isThere_12 rfl (by decide) ⟨rfl, rfl⟩ (Nat.le_of_ble_eq_true rfl) (Nat.le_of_ble_eq_true rfl)
set_option maxRecDepth 10000 in
theorem q4931 {l : Launch} {E : EE} (hl : l.stackTraces = false) {h : HP} (o4930 : ob h 154 = some (.inr (9, [.ref 155, .ref 156, .ref 157, .int (0 : Int32), .int (0 : Int32)]))) : en_C l E M_X6_isThere 0 0 0 [.ref 154] h (pR (some (.int (Int32.ofInt 0))) h) := by
  refine en_mk m_X6_isThere rfl hl (Nat.le_of_ble_eq_true rfl) ?_
  refine x_aload_n (M := M_X6_isThere) dX6_isThere_0 rfl ?_
  refine x_getf (M := M_X6_isThere) (ci := 9) (C := RX6) (T := TX6) (N := 5) (ty := tyX6) cl9 dX6_isThere_1 o4930 3 (by decide) t_72 (v := .int (0 : Int32)) rfl ?_
  refine x_if_le (M := M_X6_isThere) (tgt := 11) dX6_isThere_4 (by decide) (fun _ => ?_) (fun q => absurd q (by decide +kernel))
  refine x_iconst (M := M_X6_isThere) dX6_isThere_11 ?_
  exact x_zret (M := M_X6_isThere) dX6_isThere_12 rfl (by decide) ⟨rfl, rfl⟩ (Nat.le_of_ble_eq_true rfl) (Nat.le_of_ble_eq_true rfl)
set_option maxRecDepth 10000 in
theorem q4934 {l : Launch} {E : EE} (hl : l.stackTraces = false) {h : HP} (o4933 : ob h 158 = some (.inr (9, [.ref 159, .ref 160, .ref 161, .int (0 : Int32), .int (0 : Int32)]))) : en_C l E M_X6_isThere 0 0 0 [.ref 158] h (pR (some (.int (Int32.ofInt 0))) h) := by
  refine en_mk m_X6_isThere rfl hl (Nat.le_of_ble_eq_true rfl) ?_
  refine x_aload_n (M := M_X6_isThere) dX6_isThere_0 rfl ?_
  refine x_getf (M := M_X6_isThere) (ci := 9) (C := RX6) (T := TX6) (N := 5) (ty := tyX6) cl9 dX6_isThere_1 o4933 3 (by decide) t_72 (v := .int (0 : Int32)) rfl ?_
  refine x_if_le (M := M_X6_isThere) (tgt := 11) dX6_isThere_4 (by decide) (fun _ => ?_) (fun q => absurd q (by decide +kernel))
  refine x_iconst (M := M_X6_isThere) dX6_isThere_11 ?_
  exact x_zret (M := M_X6_isThere) dX6_isThere_12 rfl (by decide) ⟨rfl, rfl⟩ (Nat.le_of_ble_eq_true rfl) (Nat.le_of_ble_eq_true rfl)
set_option maxRecDepth 10000 in
theorem q4936 {l : Launch} {E : EE} (hl : l.stackTraces = false) {h : HP} (o4838 : ob h 32 = some (.inr (14, [.ref 33, .ref 162, .ref 166, .int (0 : Int32), .int (0 : Int32), .int (0 : Int32), .ref 167, .ref 170, .ref 173, .ref 177, .ref 193, .ref 208, .ref 222, .ref 238, .ref 252, .ref 274, .ref 275, .ref 276, .int (0 : Int32)]))) (o4839 : ob h 33 = some (.inl (4, 32, .inr (.inr (.inr (.inr (shf 1 32))))))) (o4842 : ob h 34 = some (.inr (9, [.ref 35, .ref 36, .ref 37, .int (0 : Int32), .int (0 : Int32)]))) (o4845 : ob h 38 = some (.inr (9, [.ref 39, .ref 40, .ref 41, .int (0 : Int32), .int (0 : Int32)]))) (o4848 : ob h 42 = some (.inr (9, [.ref 43, .ref 44, .ref 45, .int (0 : Int32), .int (0 : Int32)]))) (o4851 : ob h 46 = some (.inr (9, [.ref 47, .ref 48, .ref 49, .int (0 : Int32), .int (0 : Int32)]))) (o4854 : ob h 50 = some (.inr (9, [.ref 51, .ref 52, .ref 53, .int (0 : Int32), .int (0 : Int32)]))) (o4857 : ob h 54 = some (.inr (9, [.ref 55, .ref 56, .ref 57, .int (0 : Int32), .int (0 : Int32)]))) (o4860 : ob h 58 = some (.inr (9, [.ref 59, .ref 60, .ref 61, .int (0 : Int32), .int (0 : Int32)]))) (o4863 : ob h 62 = some (.inr (9, [.ref 63, .ref 64, .ref 65, .int (0 : Int32), .int (0 : Int32)]))) (o4866 : ob h 66 = some (.inr (9, [.ref 67, .ref 68, .ref 69, .int (0 : Int32), .int (0 : Int32)]))) (o4869 : ob h 70 = some (.inr (9, [.ref 71, .ref 72, .ref 73, .int (0 : Int32), .int (0 : Int32)]))) (o4872 : ob h 74 = some (.inr (9, [.ref 75, .ref 76, .ref 77, .int (0 : Int32), .int (0 : Int32)]))) (o4875 : ob h 78 = some (.inr (9, [.ref 79, .ref 80, .ref 81, .int (0 : Int32), .int (0 : Int32)]))) (o4878 : ob h 82 = some (.inr (9, [.ref 83, .ref 84, .ref 85, .int (0 : Int32), .int (0 : Int32)]))) (o4881 : ob h 86 = some (.inr (9, [.ref 87, .ref 88, .ref 89, .int (0 : Int32), .int (0 : Int32)]))) (o4884 : ob h 90 = some (.inr (9, [.ref 91, .ref 92, .ref 93, .int (0 : Int32), .int (0 : Int32)]))) (o4887 : ob h 94 = some (.inr (9, [.ref 95, .ref 96, .ref 97, .int (0 : Int32), .int (0 : Int32)]))) (o4890 : ob h 98 = some (.inr (9, [.ref 99, .ref 100, .ref 101, .int (0 : Int32), .int (0 : Int32)]))) (o4893 : ob h 102 = some (.inr (9, [.ref 103, .ref 104, .ref 105, .int (0 : Int32), .int (0 : Int32)]))) (o4896 : ob h 106 = some (.inr (9, [.ref 107, .ref 108, .ref 109, .int (0 : Int32), .int (0 : Int32)]))) (o4899 : ob h 110 = some (.inr (9, [.ref 111, .ref 112, .ref 113, .int (0 : Int32), .int (0 : Int32)]))) (o4902 : ob h 114 = some (.inr (9, [.ref 115, .ref 116, .ref 117, .int (0 : Int32), .int (0 : Int32)]))) (o4905 : ob h 118 = some (.inr (9, [.ref 119, .ref 120, .ref 121, .int (0 : Int32), .int (0 : Int32)]))) (o4908 : ob h 122 = some (.inr (9, [.ref 123, .ref 124, .ref 125, .int (0 : Int32), .int (0 : Int32)]))) (o4911 : ob h 126 = some (.inr (9, [.ref 127, .ref 128, .ref 129, .int (0 : Int32), .int (0 : Int32)]))) (o4914 : ob h 130 = some (.inr (9, [.ref 131, .ref 132, .ref 133, .int (0 : Int32), .int (0 : Int32)]))) (o4917 : ob h 134 = some (.inr (9, [.ref 135, .ref 136, .ref 137, .int (0 : Int32), .int (0 : Int32)]))) (o4920 : ob h 138 = some (.inr (9, [.ref 139, .ref 140, .ref 141, .int (0 : Int32), .int (0 : Int32)]))) (o4923 : ob h 142 = some (.inr (9, [.ref 143, .ref 144, .ref 145, .int (0 : Int32), .int (0 : Int32)]))) (o4926 : ob h 146 = some (.inr (9, [.ref 147, .ref 148, .ref 149, .int (0 : Int32), .int (0 : Int32)]))) (o4929 : ob h 150 = some (.inr (9, [.ref 151, .ref 152, .ref 153, .int (0 : Int32), .int (0 : Int32)]))) (o4932 : ob h 154 = some (.inr (9, [.ref 155, .ref 156, .ref 157, .int (0 : Int32), .int (0 : Int32)]))) (o4935 : ob h 158 = some (.inr (9, [.ref 159, .ref 160, .ref 161, .int (0 : Int32), .int (0 : Int32)]))) : en_C l E M_X11_slotsWithShapes 1 0 0 [.ref 32] h (pR (some (.int (Int32.ofInt 0))) h) := by
  refine en_mk m_X11_slotsWithShapes rfl hl (Nat.le_of_ble_eq_true rfl) ?_
  refine x_iconst (M := M_X11_slotsWithShapes) dX11_slotsWithShapes_0 ?_
  refine x_istore_n (M := M_X11_slotsWithShapes) dX11_slotsWithShapes_1 (Nat.le_of_ble_eq_true rfl) rfl ?_
  refine x_iconst (M := M_X11_slotsWithShapes) dX11_slotsWithShapes_2 ?_
  refine x_istore_n (M := M_X11_slotsWithShapes) dX11_slotsWithShapes_3 (Nat.le_of_ble_eq_true rfl) rfl ?_
  refine x_iload_n (M := M_X11_slotsWithShapes) dX11_slotsWithShapes_4 rfl ?_
  refine x_bipush (M := M_X11_slotsWithShapes) dX11_slotsWithShapes_5 ?_
  refine x_icmp_ge (M := M_X11_slotsWithShapes) (tgt := 31) dX11_slotsWithShapes_7 (by decide) (fun q => absurd q (by decide +kernel)) (fun _ => ?_)
  refine x_aload_n (M := M_X11_slotsWithShapes) dX11_slotsWithShapes_10 rfl ?_
  refine x_getf (M := M_X11_slotsWithShapes) (ci := 14) (C := RX11) (T := TX11) (N := 19) (ty := tyX11) cl14 dX11_slotsWithShapes_11 o4838 0 (by decide) t_563 (v := .ref 33) rfl ?_
  refine x_iload_n (M := M_X11_slotsWithShapes) dX11_slotsWithShapes_14 rfl ?_
  refine x_aald (M := M_X11_slotsWithShapes) (b := 34) dX11_slotsWithShapes_15 o4839 (vp_inD (by decide +kernel)) (by decide +kernel) ?_
  refine x_callVR (M := M_X11_slotsWithShapes) (M' := M_X6_isThere) rfl rfl dX11_slotsWithShapes_16 m_X6_isThere t_1050 t_1051 t_1052 (q4841 hl o4842) rfl rfl o4842 rfl (Nat.le_of_ble_eq_true rfl) (Nat.le_of_ble_eq_true rfl) (Nat.le_of_ble_eq_true rfl) (Nat.le_of_ble_eq_true rfl) ?_
  refine x_if_eq (M := M_X11_slotsWithShapes) (tgt := 25) dX11_slotsWithShapes_19 (by decide) (fun _ => ?_) (fun q => absurd q (by decide +kernel))
  refine x_iinc (M := M_X11_slotsWithShapes) dX11_slotsWithShapes_25 rfl (Nat.le_of_ble_eq_true rfl) rfl ?_
  refine x_lvs (M := M_X11_slotsWithShapes) (lv' := [some (.ref 32), some (.int (Int32.ofInt 0)), some (.int (Int32.ofInt 1))]) (by rw [(by decide +kernel : (Int32.ofInt 0) + Int32.ofInt 1 = (Int32.ofInt 1))] <;> rfl) ?_
  refine x_goto (M := M_X11_slotsWithShapes) (tgt := 4) dX11_slotsWithShapes_28 (by decide) ?_
  refine x_iload_n (M := M_X11_slotsWithShapes) dX11_slotsWithShapes_4 rfl ?_
  refine x_bipush (M := M_X11_slotsWithShapes) dX11_slotsWithShapes_5 ?_
  refine x_icmp_ge (M := M_X11_slotsWithShapes) (tgt := 31) dX11_slotsWithShapes_7 (by decide) (fun q => absurd q (by decide +kernel)) (fun _ => ?_)
  refine x_aload_n (M := M_X11_slotsWithShapes) dX11_slotsWithShapes_10 rfl ?_
  refine x_getf (M := M_X11_slotsWithShapes) (ci := 14) (C := RX11) (T := TX11) (N := 19) (ty := tyX11) cl14 dX11_slotsWithShapes_11 o4838 0 (by decide) t_563 (v := .ref 33) rfl ?_
  refine x_iload_n (M := M_X11_slotsWithShapes) dX11_slotsWithShapes_14 rfl ?_
  refine x_aald (M := M_X11_slotsWithShapes) (b := 38) dX11_slotsWithShapes_15 o4839 (vp_inD (by decide +kernel)) (by decide +kernel) ?_
  refine x_callVR (M := M_X11_slotsWithShapes) (M' := M_X6_isThere) rfl rfl dX11_slotsWithShapes_16 m_X6_isThere t_1050 t_1051 t_1052 (q4844 hl o4845) rfl rfl o4845 rfl (Nat.le_of_ble_eq_true rfl) (Nat.le_of_ble_eq_true rfl) (Nat.le_of_ble_eq_true rfl) (Nat.le_of_ble_eq_true rfl) ?_
  refine x_if_eq (M := M_X11_slotsWithShapes) (tgt := 25) dX11_slotsWithShapes_19 (by decide) (fun _ => ?_) (fun q => absurd q (by decide +kernel))
  refine x_iinc (M := M_X11_slotsWithShapes) dX11_slotsWithShapes_25 rfl (Nat.le_of_ble_eq_true rfl) rfl ?_
  refine x_lvs (M := M_X11_slotsWithShapes) (lv' := [some (.ref 32), some (.int (Int32.ofInt 0)), some (.int (Int32.ofInt 2))]) (by rw [(by decide +kernel : (Int32.ofInt 1) + Int32.ofInt 1 = (Int32.ofInt 2))] <;> rfl) ?_
  refine x_goto (M := M_X11_slotsWithShapes) (tgt := 4) dX11_slotsWithShapes_28 (by decide) ?_
  refine x_iload_n (M := M_X11_slotsWithShapes) dX11_slotsWithShapes_4 rfl ?_
  refine x_bipush (M := M_X11_slotsWithShapes) dX11_slotsWithShapes_5 ?_
  refine x_icmp_ge (M := M_X11_slotsWithShapes) (tgt := 31) dX11_slotsWithShapes_7 (by decide) (fun q => absurd q (by decide +kernel)) (fun _ => ?_)
  refine x_aload_n (M := M_X11_slotsWithShapes) dX11_slotsWithShapes_10 rfl ?_
  refine x_getf (M := M_X11_slotsWithShapes) (ci := 14) (C := RX11) (T := TX11) (N := 19) (ty := tyX11) cl14 dX11_slotsWithShapes_11 o4838 0 (by decide) t_563 (v := .ref 33) rfl ?_
  refine x_iload_n (M := M_X11_slotsWithShapes) dX11_slotsWithShapes_14 rfl ?_
  refine x_aald (M := M_X11_slotsWithShapes) (b := 42) dX11_slotsWithShapes_15 o4839 (vp_inD (by decide +kernel)) (by decide +kernel) ?_
  refine x_callVR (M := M_X11_slotsWithShapes) (M' := M_X6_isThere) rfl rfl dX11_slotsWithShapes_16 m_X6_isThere t_1050 t_1051 t_1052 (q4847 hl o4848) rfl rfl o4848 rfl (Nat.le_of_ble_eq_true rfl) (Nat.le_of_ble_eq_true rfl) (Nat.le_of_ble_eq_true rfl) (Nat.le_of_ble_eq_true rfl) ?_
  refine x_if_eq (M := M_X11_slotsWithShapes) (tgt := 25) dX11_slotsWithShapes_19 (by decide) (fun _ => ?_) (fun q => absurd q (by decide +kernel))
  refine x_iinc (M := M_X11_slotsWithShapes) dX11_slotsWithShapes_25 rfl (Nat.le_of_ble_eq_true rfl) rfl ?_
  refine x_lvs (M := M_X11_slotsWithShapes) (lv' := [some (.ref 32), some (.int (Int32.ofInt 0)), some (.int (Int32.ofInt 3))]) (by rw [(by decide +kernel : (Int32.ofInt 2) + Int32.ofInt 1 = (Int32.ofInt 3))] <;> rfl) ?_
  refine x_goto (M := M_X11_slotsWithShapes) (tgt := 4) dX11_slotsWithShapes_28 (by decide) ?_
  refine x_iload_n (M := M_X11_slotsWithShapes) dX11_slotsWithShapes_4 rfl ?_
  refine x_bipush (M := M_X11_slotsWithShapes) dX11_slotsWithShapes_5 ?_
  refine x_icmp_ge (M := M_X11_slotsWithShapes) (tgt := 31) dX11_slotsWithShapes_7 (by decide) (fun q => absurd q (by decide +kernel)) (fun _ => ?_)
  refine x_aload_n (M := M_X11_slotsWithShapes) dX11_slotsWithShapes_10 rfl ?_
  refine x_getf (M := M_X11_slotsWithShapes) (ci := 14) (C := RX11) (T := TX11) (N := 19) (ty := tyX11) cl14 dX11_slotsWithShapes_11 o4838 0 (by decide) t_563 (v := .ref 33) rfl ?_
  refine x_iload_n (M := M_X11_slotsWithShapes) dX11_slotsWithShapes_14 rfl ?_
  refine x_aald (M := M_X11_slotsWithShapes) (b := 46) dX11_slotsWithShapes_15 o4839 (vp_inD (by decide +kernel)) (by decide +kernel) ?_
  refine x_callVR (M := M_X11_slotsWithShapes) (M' := M_X6_isThere) rfl rfl dX11_slotsWithShapes_16 m_X6_isThere t_1050 t_1051 t_1052 (q4850 hl o4851) rfl rfl o4851 rfl (Nat.le_of_ble_eq_true rfl) (Nat.le_of_ble_eq_true rfl) (Nat.le_of_ble_eq_true rfl) (Nat.le_of_ble_eq_true rfl) ?_
  refine x_if_eq (M := M_X11_slotsWithShapes) (tgt := 25) dX11_slotsWithShapes_19 (by decide) (fun _ => ?_) (fun q => absurd q (by decide +kernel))
  refine x_iinc (M := M_X11_slotsWithShapes) dX11_slotsWithShapes_25 rfl (Nat.le_of_ble_eq_true rfl) rfl ?_
  refine x_lvs (M := M_X11_slotsWithShapes) (lv' := [some (.ref 32), some (.int (Int32.ofInt 0)), some (.int (Int32.ofInt 4))]) (by rw [(by decide +kernel : (Int32.ofInt 3) + Int32.ofInt 1 = (Int32.ofInt 4))] <;> rfl) ?_
  refine x_goto (M := M_X11_slotsWithShapes) (tgt := 4) dX11_slotsWithShapes_28 (by decide) ?_
  refine x_iload_n (M := M_X11_slotsWithShapes) dX11_slotsWithShapes_4 rfl ?_
  refine x_bipush (M := M_X11_slotsWithShapes) dX11_slotsWithShapes_5 ?_
  refine x_icmp_ge (M := M_X11_slotsWithShapes) (tgt := 31) dX11_slotsWithShapes_7 (by decide) (fun q => absurd q (by decide +kernel)) (fun _ => ?_)
  refine x_aload_n (M := M_X11_slotsWithShapes) dX11_slotsWithShapes_10 rfl ?_
  refine x_getf (M := M_X11_slotsWithShapes) (ci := 14) (C := RX11) (T := TX11) (N := 19) (ty := tyX11) cl14 dX11_slotsWithShapes_11 o4838 0 (by decide) t_563 (v := .ref 33) rfl ?_
  refine x_iload_n (M := M_X11_slotsWithShapes) dX11_slotsWithShapes_14 rfl ?_
  refine x_aald (M := M_X11_slotsWithShapes) (b := 50) dX11_slotsWithShapes_15 o4839 (vp_inD (by decide +kernel)) (by decide +kernel) ?_
  refine x_callVR (M := M_X11_slotsWithShapes) (M' := M_X6_isThere) rfl rfl dX11_slotsWithShapes_16 m_X6_isThere t_1050 t_1051 t_1052 (q4853 hl o4854) rfl rfl o4854 rfl (Nat.le_of_ble_eq_true rfl) (Nat.le_of_ble_eq_true rfl) (Nat.le_of_ble_eq_true rfl) (Nat.le_of_ble_eq_true rfl) ?_
  refine x_if_eq (M := M_X11_slotsWithShapes) (tgt := 25) dX11_slotsWithShapes_19 (by decide) (fun _ => ?_) (fun q => absurd q (by decide +kernel))
  refine x_iinc (M := M_X11_slotsWithShapes) dX11_slotsWithShapes_25 rfl (Nat.le_of_ble_eq_true rfl) rfl ?_
  refine x_lvs (M := M_X11_slotsWithShapes) (lv' := [some (.ref 32), some (.int (Int32.ofInt 0)), some (.int (Int32.ofInt 5))]) (by rw [(by decide +kernel : (Int32.ofInt 4) + Int32.ofInt 1 = (Int32.ofInt 5))] <;> rfl) ?_
  refine x_goto (M := M_X11_slotsWithShapes) (tgt := 4) dX11_slotsWithShapes_28 (by decide) ?_
  refine x_iload_n (M := M_X11_slotsWithShapes) dX11_slotsWithShapes_4 rfl ?_
  refine x_bipush (M := M_X11_slotsWithShapes) dX11_slotsWithShapes_5 ?_
  refine x_icmp_ge (M := M_X11_slotsWithShapes) (tgt := 31) dX11_slotsWithShapes_7 (by decide) (fun q => absurd q (by decide +kernel)) (fun _ => ?_)
  refine x_aload_n (M := M_X11_slotsWithShapes) dX11_slotsWithShapes_10 rfl ?_
  refine x_getf (M := M_X11_slotsWithShapes) (ci := 14) (C := RX11) (T := TX11) (N := 19) (ty := tyX11) cl14 dX11_slotsWithShapes_11 o4838 0 (by decide) t_563 (v := .ref 33) rfl ?_
  refine x_iload_n (M := M_X11_slotsWithShapes) dX11_slotsWithShapes_14 rfl ?_
  refine x_aald (M := M_X11_slotsWithShapes) (b := 54) dX11_slotsWithShapes_15 o4839 (vp_inD (by decide +kernel)) (by decide +kernel) ?_
  refine x_callVR (M := M_X11_slotsWithShapes) (M' := M_X6_isThere) rfl rfl dX11_slotsWithShapes_16 m_X6_isThere t_1050 t_1051 t_1052 (q4856 hl o4857) rfl rfl o4857 rfl (Nat.le_of_ble_eq_true rfl) (Nat.le_of_ble_eq_true rfl) (Nat.le_of_ble_eq_true rfl) (Nat.le_of_ble_eq_true rfl) ?_
  refine x_if_eq (M := M_X11_slotsWithShapes) (tgt := 25) dX11_slotsWithShapes_19 (by decide) (fun _ => ?_) (fun q => absurd q (by decide +kernel))
  refine x_iinc (M := M_X11_slotsWithShapes) dX11_slotsWithShapes_25 rfl (Nat.le_of_ble_eq_true rfl) rfl ?_
  refine x_lvs (M := M_X11_slotsWithShapes) (lv' := [some (.ref 32), some (.int (Int32.ofInt 0)), some (.int (Int32.ofInt 6))]) (by rw [(by decide +kernel : (Int32.ofInt 5) + Int32.ofInt 1 = (Int32.ofInt 6))] <;> rfl) ?_
  refine x_goto (M := M_X11_slotsWithShapes) (tgt := 4) dX11_slotsWithShapes_28 (by decide) ?_
  refine x_iload_n (M := M_X11_slotsWithShapes) dX11_slotsWithShapes_4 rfl ?_
  refine x_bipush (M := M_X11_slotsWithShapes) dX11_slotsWithShapes_5 ?_
  refine x_icmp_ge (M := M_X11_slotsWithShapes) (tgt := 31) dX11_slotsWithShapes_7 (by decide) (fun q => absurd q (by decide +kernel)) (fun _ => ?_)
  refine x_aload_n (M := M_X11_slotsWithShapes) dX11_slotsWithShapes_10 rfl ?_
  refine x_getf (M := M_X11_slotsWithShapes) (ci := 14) (C := RX11) (T := TX11) (N := 19) (ty := tyX11) cl14 dX11_slotsWithShapes_11 o4838 0 (by decide) t_563 (v := .ref 33) rfl ?_
  refine x_iload_n (M := M_X11_slotsWithShapes) dX11_slotsWithShapes_14 rfl ?_
  refine x_aald (M := M_X11_slotsWithShapes) (b := 58) dX11_slotsWithShapes_15 o4839 (vp_inD (by decide +kernel)) (by decide +kernel) ?_
  refine x_callVR (M := M_X11_slotsWithShapes) (M' := M_X6_isThere) rfl rfl dX11_slotsWithShapes_16 m_X6_isThere t_1050 t_1051 t_1052 (q4859 hl o4860) rfl rfl o4860 rfl (Nat.le_of_ble_eq_true rfl) (Nat.le_of_ble_eq_true rfl) (Nat.le_of_ble_eq_true rfl) (Nat.le_of_ble_eq_true rfl) ?_
  refine x_if_eq (M := M_X11_slotsWithShapes) (tgt := 25) dX11_slotsWithShapes_19 (by decide) (fun _ => ?_) (fun q => absurd q (by decide +kernel))
  refine x_iinc (M := M_X11_slotsWithShapes) dX11_slotsWithShapes_25 rfl (Nat.le_of_ble_eq_true rfl) rfl ?_
  refine x_lvs (M := M_X11_slotsWithShapes) (lv' := [some (.ref 32), some (.int (Int32.ofInt 0)), some (.int (Int32.ofInt 7))]) (by rw [(by decide +kernel : (Int32.ofInt 6) + Int32.ofInt 1 = (Int32.ofInt 7))] <;> rfl) ?_
  refine x_goto (M := M_X11_slotsWithShapes) (tgt := 4) dX11_slotsWithShapes_28 (by decide) ?_
  refine x_iload_n (M := M_X11_slotsWithShapes) dX11_slotsWithShapes_4 rfl ?_
  refine x_bipush (M := M_X11_slotsWithShapes) dX11_slotsWithShapes_5 ?_
  refine x_icmp_ge (M := M_X11_slotsWithShapes) (tgt := 31) dX11_slotsWithShapes_7 (by decide) (fun q => absurd q (by decide +kernel)) (fun _ => ?_)
  refine x_aload_n (M := M_X11_slotsWithShapes) dX11_slotsWithShapes_10 rfl ?_
  refine x_getf (M := M_X11_slotsWithShapes) (ci := 14) (C := RX11) (T := TX11) (N := 19) (ty := tyX11) cl14 dX11_slotsWithShapes_11 o4838 0 (by decide) t_563 (v := .ref 33) rfl ?_
  refine x_iload_n (M := M_X11_slotsWithShapes) dX11_slotsWithShapes_14 rfl ?_
  refine x_aald (M := M_X11_slotsWithShapes) (b := 62) dX11_slotsWithShapes_15 o4839 (vp_inD (by decide +kernel)) (by decide +kernel) ?_
  refine x_callVR (M := M_X11_slotsWithShapes) (M' := M_X6_isThere) rfl rfl dX11_slotsWithShapes_16 m_X6_isThere t_1050 t_1051 t_1052 (q4862 hl o4863) rfl rfl o4863 rfl (Nat.le_of_ble_eq_true rfl) (Nat.le_of_ble_eq_true rfl) (Nat.le_of_ble_eq_true rfl) (Nat.le_of_ble_eq_true rfl) ?_
  refine x_if_eq (M := M_X11_slotsWithShapes) (tgt := 25) dX11_slotsWithShapes_19 (by decide) (fun _ => ?_) (fun q => absurd q (by decide +kernel))
  refine x_iinc (M := M_X11_slotsWithShapes) dX11_slotsWithShapes_25 rfl (Nat.le_of_ble_eq_true rfl) rfl ?_
  refine x_lvs (M := M_X11_slotsWithShapes) (lv' := [some (.ref 32), some (.int (Int32.ofInt 0)), some (.int (Int32.ofInt 8))]) (by rw [(by decide +kernel : (Int32.ofInt 7) + Int32.ofInt 1 = (Int32.ofInt 8))] <;> rfl) ?_
  refine x_goto (M := M_X11_slotsWithShapes) (tgt := 4) dX11_slotsWithShapes_28 (by decide) ?_
  refine x_iload_n (M := M_X11_slotsWithShapes) dX11_slotsWithShapes_4 rfl ?_
  refine x_bipush (M := M_X11_slotsWithShapes) dX11_slotsWithShapes_5 ?_
  refine x_icmp_ge (M := M_X11_slotsWithShapes) (tgt := 31) dX11_slotsWithShapes_7 (by decide) (fun q => absurd q (by decide +kernel)) (fun _ => ?_)
  refine x_aload_n (M := M_X11_slotsWithShapes) dX11_slotsWithShapes_10 rfl ?_
  refine x_getf (M := M_X11_slotsWithShapes) (ci := 14) (C := RX11) (T := TX11) (N := 19) (ty := tyX11) cl14 dX11_slotsWithShapes_11 o4838 0 (by decide) t_563 (v := .ref 33) rfl ?_
  refine x_iload_n (M := M_X11_slotsWithShapes) dX11_slotsWithShapes_14 rfl ?_
  refine x_aald (M := M_X11_slotsWithShapes) (b := 66) dX11_slotsWithShapes_15 o4839 (vp_inD (by decide +kernel)) (by decide +kernel) ?_
  refine x_callVR (M := M_X11_slotsWithShapes) (M' := M_X6_isThere) rfl rfl dX11_slotsWithShapes_16 m_X6_isThere t_1050 t_1051 t_1052 (q4865 hl o4866) rfl rfl o4866 rfl (Nat.le_of_ble_eq_true rfl) (Nat.le_of_ble_eq_true rfl) (Nat.le_of_ble_eq_true rfl) (Nat.le_of_ble_eq_true rfl) ?_
  refine x_if_eq (M := M_X11_slotsWithShapes) (tgt := 25) dX11_slotsWithShapes_19 (by decide) (fun _ => ?_) (fun q => absurd q (by decide +kernel))
  refine x_iinc (M := M_X11_slotsWithShapes) dX11_slotsWithShapes_25 rfl (Nat.le_of_ble_eq_true rfl) rfl ?_
  refine x_lvs (M := M_X11_slotsWithShapes) (lv' := [some (.ref 32), some (.int (Int32.ofInt 0)), some (.int (Int32.ofInt 9))]) (by rw [(by decide +kernel : (Int32.ofInt 8) + Int32.ofInt 1 = (Int32.ofInt 9))] <;> rfl) ?_
  refine x_goto (M := M_X11_slotsWithShapes) (tgt := 4) dX11_slotsWithShapes_28 (by decide) ?_
  refine x_iload_n (M := M_X11_slotsWithShapes) dX11_slotsWithShapes_4 rfl ?_
  refine x_bipush (M := M_X11_slotsWithShapes) dX11_slotsWithShapes_5 ?_
  refine x_icmp_ge (M := M_X11_slotsWithShapes) (tgt := 31) dX11_slotsWithShapes_7 (by decide) (fun q => absurd q (by decide +kernel)) (fun _ => ?_)
  refine x_aload_n (M := M_X11_slotsWithShapes) dX11_slotsWithShapes_10 rfl ?_
  refine x_getf (M := M_X11_slotsWithShapes) (ci := 14) (C := RX11) (T := TX11) (N := 19) (ty := tyX11) cl14 dX11_slotsWithShapes_11 o4838 0 (by decide) t_563 (v := .ref 33) rfl ?_
  refine x_iload_n (M := M_X11_slotsWithShapes) dX11_slotsWithShapes_14 rfl ?_
  refine x_aald (M := M_X11_slotsWithShapes) (b := 70) dX11_slotsWithShapes_15 o4839 (vp_inD (by decide +kernel)) (by decide +kernel) ?_
  refine x_callVR (M := M_X11_slotsWithShapes) (M' := M_X6_isThere) rfl rfl dX11_slotsWithShapes_16 m_X6_isThere t_1050 t_1051 t_1052 (q4868 hl o4869) rfl rfl o4869 rfl (Nat.le_of_ble_eq_true rfl) (Nat.le_of_ble_eq_true rfl) (Nat.le_of_ble_eq_true rfl) (Nat.le_of_ble_eq_true rfl) ?_
  refine x_if_eq (M := M_X11_slotsWithShapes) (tgt := 25) dX11_slotsWithShapes_19 (by decide) (fun _ => ?_) (fun q => absurd q (by decide +kernel))
  refine x_iinc (M := M_X11_slotsWithShapes) dX11_slotsWithShapes_25 rfl (Nat.le_of_ble_eq_true rfl) rfl ?_
  refine x_lvs (M := M_X11_slotsWithShapes) (lv' := [some (.ref 32), some (.int (Int32.ofInt 0)), some (.int (Int32.ofInt 10))]) (by rw [(by decide +kernel : (Int32.ofInt 9) + Int32.ofInt 1 = (Int32.ofInt 10))] <;> rfl) ?_
  refine x_goto (M := M_X11_slotsWithShapes) (tgt := 4) dX11_slotsWithShapes_28 (by decide) ?_
  refine x_iload_n (M := M_X11_slotsWithShapes) dX11_slotsWithShapes_4 rfl ?_
  refine x_bipush (M := M_X11_slotsWithShapes) dX11_slotsWithShapes_5 ?_
  refine x_icmp_ge (M := M_X11_slotsWithShapes) (tgt := 31) dX11_slotsWithShapes_7 (by decide) (fun q => absurd q (by decide +kernel)) (fun _ => ?_)
  refine x_aload_n (M := M_X11_slotsWithShapes) dX11_slotsWithShapes_10 rfl ?_
  refine x_getf (M := M_X11_slotsWithShapes) (ci := 14) (C := RX11) (T := TX11) (N := 19) (ty := tyX11) cl14 dX11_slotsWithShapes_11 o4838 0 (by decide) t_563 (v := .ref 33) rfl ?_
  refine x_iload_n (M := M_X11_slotsWithShapes) dX11_slotsWithShapes_14 rfl ?_
  refine x_aald (M := M_X11_slotsWithShapes) (b := 74) dX11_slotsWithShapes_15 o4839 (vp_inD (by decide +kernel)) (by decide +kernel) ?_
  refine x_callVR (M := M_X11_slotsWithShapes) (M' := M_X6_isThere) rfl rfl dX11_slotsWithShapes_16 m_X6_isThere t_1050 t_1051 t_1052 (q4871 hl o4872) rfl rfl o4872 rfl (Nat.le_of_ble_eq_true rfl) (Nat.le_of_ble_eq_true rfl) (Nat.le_of_ble_eq_true rfl) (Nat.le_of_ble_eq_true rfl) ?_
  refine x_if_eq (M := M_X11_slotsWithShapes) (tgt := 25) dX11_slotsWithShapes_19 (by decide) (fun _ => ?_) (fun q => absurd q (by decide +kernel))
  refine x_iinc (M := M_X11_slotsWithShapes) dX11_slotsWithShapes_25 rfl (Nat.le_of_ble_eq_true rfl) rfl ?_
  refine x_lvs (M := M_X11_slotsWithShapes) (lv' := [some (.ref 32), some (.int (Int32.ofInt 0)), some (.int (Int32.ofInt 11))]) (by rw [(by decide +kernel : (Int32.ofInt 10) + Int32.ofInt 1 = (Int32.ofInt 11))] <;> rfl) ?_
  refine x_goto (M := M_X11_slotsWithShapes) (tgt := 4) dX11_slotsWithShapes_28 (by decide) ?_
  refine x_iload_n (M := M_X11_slotsWithShapes) dX11_slotsWithShapes_4 rfl ?_
  refine x_bipush (M := M_X11_slotsWithShapes) dX11_slotsWithShapes_5 ?_
  refine x_icmp_ge (M := M_X11_slotsWithShapes) (tgt := 31) dX11_slotsWithShapes_7 (by decide) (fun q => absurd q (by decide +kernel)) (fun _ => ?_)
  refine x_aload_n (M := M_X11_slotsWithShapes) dX11_slotsWithShapes_10 rfl ?_
  refine x_getf (M := M_X11_slotsWithShapes) (ci := 14) (C := RX11) (T := TX11) (N := 19) (ty := tyX11) cl14 dX11_slotsWithShapes_11 o4838 0 (by decide) t_563 (v := .ref 33) rfl ?_
  refine x_iload_n (M := M_X11_slotsWithShapes) dX11_slotsWithShapes_14 rfl ?_
  refine x_aald (M := M_X11_slotsWithShapes) (b := 78) dX11_slotsWithShapes_15 o4839 (vp_inD (by decide +kernel)) (by decide +kernel) ?_
  refine x_callVR (M := M_X11_slotsWithShapes) (M' := M_X6_isThere) rfl rfl dX11_slotsWithShapes_16 m_X6_isThere t_1050 t_1051 t_1052 (q4874 hl o4875) rfl rfl o4875 rfl (Nat.le_of_ble_eq_true rfl) (Nat.le_of_ble_eq_true rfl) (Nat.le_of_ble_eq_true rfl) (Nat.le_of_ble_eq_true rfl) ?_
  refine x_if_eq (M := M_X11_slotsWithShapes) (tgt := 25) dX11_slotsWithShapes_19 (by decide) (fun _ => ?_) (fun q => absurd q (by decide +kernel))
  refine x_iinc (M := M_X11_slotsWithShapes) dX11_slotsWithShapes_25 rfl (Nat.le_of_ble_eq_true rfl) rfl ?_
  refine x_lvs (M := M_X11_slotsWithShapes) (lv' := [some (.ref 32), some (.int (Int32.ofInt 0)), some (.int (Int32.ofInt 12))]) (by rw [(by decide +kernel : (Int32.ofInt 11) + Int32.ofInt 1 = (Int32.ofInt 12))] <;> rfl) ?_
  refine x_goto (M := M_X11_slotsWithShapes) (tgt := 4) dX11_slotsWithShapes_28 (by decide) ?_
  refine x_iload_n (M := M_X11_slotsWithShapes) dX11_slotsWithShapes_4 rfl ?_
  refine x_bipush (M := M_X11_slotsWithShapes) dX11_slotsWithShapes_5 ?_
  refine x_icmp_ge (M := M_X11_slotsWithShapes) (tgt := 31) dX11_slotsWithShapes_7 (by decide) (fun q => absurd q (by decide +kernel)) (fun _ => ?_)
  refine x_aload_n (M := M_X11_slotsWithShapes) dX11_slotsWithShapes_10 rfl ?_
  refine x_getf (M := M_X11_slotsWithShapes) (ci := 14) (C := RX11) (T := TX11) (N := 19) (ty := tyX11) cl14 dX11_slotsWithShapes_11 o4838 0 (by decide) t_563 (v := .ref 33) rfl ?_
  refine x_iload_n (M := M_X11_slotsWithShapes) dX11_slotsWithShapes_14 rfl ?_
  refine x_aald (M := M_X11_slotsWithShapes) (b := 82) dX11_slotsWithShapes_15 o4839 (vp_inD (by decide +kernel)) (by decide +kernel) ?_
  refine x_callVR (M := M_X11_slotsWithShapes) (M' := M_X6_isThere) rfl rfl dX11_slotsWithShapes_16 m_X6_isThere t_1050 t_1051 t_1052 (q4877 hl o4878) rfl rfl o4878 rfl (Nat.le_of_ble_eq_true rfl) (Nat.le_of_ble_eq_true rfl) (Nat.le_of_ble_eq_true rfl) (Nat.le_of_ble_eq_true rfl) ?_
  refine x_if_eq (M := M_X11_slotsWithShapes) (tgt := 25) dX11_slotsWithShapes_19 (by decide) (fun _ => ?_) (fun q => absurd q (by decide +kernel))
  refine x_iinc (M := M_X11_slotsWithShapes) dX11_slotsWithShapes_25 rfl (Nat.le_of_ble_eq_true rfl) rfl ?_
  refine x_lvs (M := M_X11_slotsWithShapes) (lv' := [some (.ref 32), some (.int (Int32.ofInt 0)), some (.int (Int32.ofInt 13))]) (by rw [(by decide +kernel : (Int32.ofInt 12) + Int32.ofInt 1 = (Int32.ofInt 13))] <;> rfl) ?_
  refine x_goto (M := M_X11_slotsWithShapes) (tgt := 4) dX11_slotsWithShapes_28 (by decide) ?_
  refine x_iload_n (M := M_X11_slotsWithShapes) dX11_slotsWithShapes_4 rfl ?_
  refine x_bipush (M := M_X11_slotsWithShapes) dX11_slotsWithShapes_5 ?_
  refine x_icmp_ge (M := M_X11_slotsWithShapes) (tgt := 31) dX11_slotsWithShapes_7 (by decide) (fun q => absurd q (by decide +kernel)) (fun _ => ?_)
  refine x_aload_n (M := M_X11_slotsWithShapes) dX11_slotsWithShapes_10 rfl ?_
  refine x_getf (M := M_X11_slotsWithShapes) (ci := 14) (C := RX11) (T := TX11) (N := 19) (ty := tyX11) cl14 dX11_slotsWithShapes_11 o4838 0 (by decide) t_563 (v := .ref 33) rfl ?_
  refine x_iload_n (M := M_X11_slotsWithShapes) dX11_slotsWithShapes_14 rfl ?_
  refine x_aald (M := M_X11_slotsWithShapes) (b := 86) dX11_slotsWithShapes_15 o4839 (vp_inD (by decide +kernel)) (by decide +kernel) ?_
  refine x_callVR (M := M_X11_slotsWithShapes) (M' := M_X6_isThere) rfl rfl dX11_slotsWithShapes_16 m_X6_isThere t_1050 t_1051 t_1052 (q4880 hl o4881) rfl rfl o4881 rfl (Nat.le_of_ble_eq_true rfl) (Nat.le_of_ble_eq_true rfl) (Nat.le_of_ble_eq_true rfl) (Nat.le_of_ble_eq_true rfl) ?_
  refine x_if_eq (M := M_X11_slotsWithShapes) (tgt := 25) dX11_slotsWithShapes_19 (by decide) (fun _ => ?_) (fun q => absurd q (by decide +kernel))
  refine x_iinc (M := M_X11_slotsWithShapes) dX11_slotsWithShapes_25 rfl (Nat.le_of_ble_eq_true rfl) rfl ?_
  refine x_lvs (M := M_X11_slotsWithShapes) (lv' := [some (.ref 32), some (.int (Int32.ofInt 0)), some (.int (Int32.ofInt 14))]) (by rw [(by decide +kernel : (Int32.ofInt 13) + Int32.ofInt 1 = (Int32.ofInt 14))] <;> rfl) ?_
  refine x_goto (M := M_X11_slotsWithShapes) (tgt := 4) dX11_slotsWithShapes_28 (by decide) ?_
  refine x_iload_n (M := M_X11_slotsWithShapes) dX11_slotsWithShapes_4 rfl ?_
  refine x_bipush (M := M_X11_slotsWithShapes) dX11_slotsWithShapes_5 ?_
  refine x_icmp_ge (M := M_X11_slotsWithShapes) (tgt := 31) dX11_slotsWithShapes_7 (by decide) (fun q => absurd q (by decide +kernel)) (fun _ => ?_)
  refine x_aload_n (M := M_X11_slotsWithShapes) dX11_slotsWithShapes_10 rfl ?_
  refine x_getf (M := M_X11_slotsWithShapes) (ci := 14) (C := RX11) (T := TX11) (N := 19) (ty := tyX11) cl14 dX11_slotsWithShapes_11 o4838 0 (by decide) t_563 (v := .ref 33) rfl ?_
  refine x_iload_n (M := M_X11_slotsWithShapes) dX11_slotsWithShapes_14 rfl ?_
  refine x_aald (M := M_X11_slotsWithShapes) (b := 90) dX11_slotsWithShapes_15 o4839 (vp_inD (by decide +kernel)) (by decide +kernel) ?_
  refine x_callVR (M := M_X11_slotsWithShapes) (M' := M_X6_isThere) rfl rfl dX11_slotsWithShapes_16 m_X6_isThere t_1050 t_1051 t_1052 (q4883 hl o4884) rfl rfl o4884 rfl (Nat.le_of_ble_eq_true rfl) (Nat.le_of_ble_eq_true rfl) (Nat.le_of_ble_eq_true rfl) (Nat.le_of_ble_eq_true rfl) ?_
  refine x_if_eq (M := M_X11_slotsWithShapes) (tgt := 25) dX11_slotsWithShapes_19 (by decide) (fun _ => ?_) (fun q => absurd q (by decide +kernel))
  refine x_iinc (M := M_X11_slotsWithShapes) dX11_slotsWithShapes_25 rfl (Nat.le_of_ble_eq_true rfl) rfl ?_
  refine x_lvs (M := M_X11_slotsWithShapes) (lv' := [some (.ref 32), some (.int (Int32.ofInt 0)), some (.int (Int32.ofInt 15))]) (by rw [(by decide +kernel : (Int32.ofInt 14) + Int32.ofInt 1 = (Int32.ofInt 15))] <;> rfl) ?_
  refine x_goto (M := M_X11_slotsWithShapes) (tgt := 4) dX11_slotsWithShapes_28 (by decide) ?_
  refine x_iload_n (M := M_X11_slotsWithShapes) dX11_slotsWithShapes_4 rfl ?_
  refine x_bipush (M := M_X11_slotsWithShapes) dX11_slotsWithShapes_5 ?_
  refine x_icmp_ge (M := M_X11_slotsWithShapes) (tgt := 31) dX11_slotsWithShapes_7 (by decide) (fun q => absurd q (by decide +kernel)) (fun _ => ?_)
  refine x_aload_n (M := M_X11_slotsWithShapes) dX11_slotsWithShapes_10 rfl ?_
  refine x_getf (M := M_X11_slotsWithShapes) (ci := 14) (C := RX11) (T := TX11) (N := 19) (ty := tyX11) cl14 dX11_slotsWithShapes_11 o4838 0 (by decide) t_563 (v := .ref 33) rfl ?_
  refine x_iload_n (M := M_X11_slotsWithShapes) dX11_slotsWithShapes_14 rfl ?_
  refine x_aald (M := M_X11_slotsWithShapes) (b := 94) dX11_slotsWithShapes_15 o4839 (vp_inD (by decide +kernel)) (by decide +kernel) ?_
  refine x_callVR (M := M_X11_slotsWithShapes) (M' := M_X6_isThere) rfl rfl dX11_slotsWithShapes_16 m_X6_isThere t_1050 t_1051 t_1052 (q4886 hl o4887) rfl rfl o4887 rfl (Nat.le_of_ble_eq_true rfl) (Nat.le_of_ble_eq_true rfl) (Nat.le_of_ble_eq_true rfl) (Nat.le_of_ble_eq_true rfl) ?_
  refine x_if_eq (M := M_X11_slotsWithShapes) (tgt := 25) dX11_slotsWithShapes_19 (by decide) (fun _ => ?_) (fun q => absurd q (by decide +kernel))
  refine x_iinc (M := M_X11_slotsWithShapes) dX11_slotsWithShapes_25 rfl (Nat.le_of_ble_eq_true rfl) rfl ?_
  refine x_lvs (M := M_X11_slotsWithShapes) (lv' := [some (.ref 32), some (.int (Int32.ofInt 0)), some (.int (Int32.ofInt 16))]) (by rw [(by decide +kernel : (Int32.ofInt 15) + Int32.ofInt 1 = (Int32.ofInt 16))] <;> rfl) ?_
  refine x_goto (M := M_X11_slotsWithShapes) (tgt := 4) dX11_slotsWithShapes_28 (by decide) ?_
  refine x_iload_n (M := M_X11_slotsWithShapes) dX11_slotsWithShapes_4 rfl ?_
  refine x_bipush (M := M_X11_slotsWithShapes) dX11_slotsWithShapes_5 ?_
  refine x_icmp_ge (M := M_X11_slotsWithShapes) (tgt := 31) dX11_slotsWithShapes_7 (by decide) (fun q => absurd q (by decide +kernel)) (fun _ => ?_)
  refine x_aload_n (M := M_X11_slotsWithShapes) dX11_slotsWithShapes_10 rfl ?_
  refine x_getf (M := M_X11_slotsWithShapes) (ci := 14) (C := RX11) (T := TX11) (N := 19) (ty := tyX11) cl14 dX11_slotsWithShapes_11 o4838 0 (by decide) t_563 (v := .ref 33) rfl ?_
  refine x_iload_n (M := M_X11_slotsWithShapes) dX11_slotsWithShapes_14 rfl ?_
  refine x_aald (M := M_X11_slotsWithShapes) (b := 98) dX11_slotsWithShapes_15 o4839 (vp_inD (by decide +kernel)) (by decide +kernel) ?_
  refine x_callVR (M := M_X11_slotsWithShapes) (M' := M_X6_isThere) rfl rfl dX11_slotsWithShapes_16 m_X6_isThere t_1050 t_1051 t_1052 (q4889 hl o4890) rfl rfl o4890 rfl (Nat.le_of_ble_eq_true rfl) (Nat.le_of_ble_eq_true rfl) (Nat.le_of_ble_eq_true rfl) (Nat.le_of_ble_eq_true rfl) ?_
  refine x_if_eq (M := M_X11_slotsWithShapes) (tgt := 25) dX11_slotsWithShapes_19 (by decide) (fun _ => ?_) (fun q => absurd q (by decide +kernel))
  refine x_iinc (M := M_X11_slotsWithShapes) dX11_slotsWithShapes_25 rfl (Nat.le_of_ble_eq_true rfl) rfl ?_
  refine x_lvs (M := M_X11_slotsWithShapes) (lv' := [some (.ref 32), some (.int (Int32.ofInt 0)), some (.int (Int32.ofInt 17))]) (by rw [(by decide +kernel : (Int32.ofInt 16) + Int32.ofInt 1 = (Int32.ofInt 17))] <;> rfl) ?_
  refine x_goto (M := M_X11_slotsWithShapes) (tgt := 4) dX11_slotsWithShapes_28 (by decide) ?_
  refine x_iload_n (M := M_X11_slotsWithShapes) dX11_slotsWithShapes_4 rfl ?_
  refine x_bipush (M := M_X11_slotsWithShapes) dX11_slotsWithShapes_5 ?_
  refine x_icmp_ge (M := M_X11_slotsWithShapes) (tgt := 31) dX11_slotsWithShapes_7 (by decide) (fun q => absurd q (by decide +kernel)) (fun _ => ?_)
  refine x_aload_n (M := M_X11_slotsWithShapes) dX11_slotsWithShapes_10 rfl ?_
  refine x_getf (M := M_X11_slotsWithShapes) (ci := 14) (C := RX11) (T := TX11) (N := 19) (ty := tyX11) cl14 dX11_slotsWithShapes_11 o4838 0 (by decide) t_563 (v := .ref 33) rfl ?_
  refine x_iload_n (M := M_X11_slotsWithShapes) dX11_slotsWithShapes_14 rfl ?_
  refine x_aald (M := M_X11_slotsWithShapes) (b := 102) dX11_slotsWithShapes_15 o4839 (vp_inD (by decide +kernel)) (by decide +kernel) ?_
  refine x_callVR (M := M_X11_slotsWithShapes) (M' := M_X6_isThere) rfl rfl dX11_slotsWithShapes_16 m_X6_isThere t_1050 t_1051 t_1052 (q4892 hl o4893) rfl rfl o4893 rfl (Nat.le_of_ble_eq_true rfl) (Nat.le_of_ble_eq_true rfl) (Nat.le_of_ble_eq_true rfl) (Nat.le_of_ble_eq_true rfl) ?_
  refine x_if_eq (M := M_X11_slotsWithShapes) (tgt := 25) dX11_slotsWithShapes_19 (by decide) (fun _ => ?_) (fun q => absurd q (by decide +kernel))
  refine x_iinc (M := M_X11_slotsWithShapes) dX11_slotsWithShapes_25 rfl (Nat.le_of_ble_eq_true rfl) rfl ?_
  refine x_lvs (M := M_X11_slotsWithShapes) (lv' := [some (.ref 32), some (.int (Int32.ofInt 0)), some (.int (Int32.ofInt 18))]) (by rw [(by decide +kernel : (Int32.ofInt 17) + Int32.ofInt 1 = (Int32.ofInt 18))] <;> rfl) ?_
  refine x_goto (M := M_X11_slotsWithShapes) (tgt := 4) dX11_slotsWithShapes_28 (by decide) ?_
  refine x_iload_n (M := M_X11_slotsWithShapes) dX11_slotsWithShapes_4 rfl ?_
  refine x_bipush (M := M_X11_slotsWithShapes) dX11_slotsWithShapes_5 ?_
  refine x_icmp_ge (M := M_X11_slotsWithShapes) (tgt := 31) dX11_slotsWithShapes_7 (by decide) (fun q => absurd q (by decide +kernel)) (fun _ => ?_)
  refine x_aload_n (M := M_X11_slotsWithShapes) dX11_slotsWithShapes_10 rfl ?_
  refine x_getf (M := M_X11_slotsWithShapes) (ci := 14) (C := RX11) (T := TX11) (N := 19) (ty := tyX11) cl14 dX11_slotsWithShapes_11 o4838 0 (by decide) t_563 (v := .ref 33) rfl ?_
  refine x_iload_n (M := M_X11_slotsWithShapes) dX11_slotsWithShapes_14 rfl ?_
  refine x_aald (M := M_X11_slotsWithShapes) (b := 106) dX11_slotsWithShapes_15 o4839 (vp_inD (by decide +kernel)) (by decide +kernel) ?_
  refine x_callVR (M := M_X11_slotsWithShapes) (M' := M_X6_isThere) rfl rfl dX11_slotsWithShapes_16 m_X6_isThere t_1050 t_1051 t_1052 (q4895 hl o4896) rfl rfl o4896 rfl (Nat.le_of_ble_eq_true rfl) (Nat.le_of_ble_eq_true rfl) (Nat.le_of_ble_eq_true rfl) (Nat.le_of_ble_eq_true rfl) ?_
  refine x_if_eq (M := M_X11_slotsWithShapes) (tgt := 25) dX11_slotsWithShapes_19 (by decide) (fun _ => ?_) (fun q => absurd q (by decide +kernel))
  refine x_iinc (M := M_X11_slotsWithShapes) dX11_slotsWithShapes_25 rfl (Nat.le_of_ble_eq_true rfl) rfl ?_
  refine x_lvs (M := M_X11_slotsWithShapes) (lv' := [some (.ref 32), some (.int (Int32.ofInt 0)), some (.int (Int32.ofInt 19))]) (by rw [(by decide +kernel : (Int32.ofInt 18) + Int32.ofInt 1 = (Int32.ofInt 19))] <;> rfl) ?_
  refine x_goto (M := M_X11_slotsWithShapes) (tgt := 4) dX11_slotsWithShapes_28 (by decide) ?_
  refine x_iload_n (M := M_X11_slotsWithShapes) dX11_slotsWithShapes_4 rfl ?_
  refine x_bipush (M := M_X11_slotsWithShapes) dX11_slotsWithShapes_5 ?_
  refine x_icmp_ge (M := M_X11_slotsWithShapes) (tgt := 31) dX11_slotsWithShapes_7 (by decide) (fun q => absurd q (by decide +kernel)) (fun _ => ?_)
  refine x_aload_n (M := M_X11_slotsWithShapes) dX11_slotsWithShapes_10 rfl ?_
  refine x_getf (M := M_X11_slotsWithShapes) (ci := 14) (C := RX11) (T := TX11) (N := 19) (ty := tyX11) cl14 dX11_slotsWithShapes_11 o4838 0 (by decide) t_563 (v := .ref 33) rfl ?_
  refine x_iload_n (M := M_X11_slotsWithShapes) dX11_slotsWithShapes_14 rfl ?_
  refine x_aald (M := M_X11_slotsWithShapes) (b := 110) dX11_slotsWithShapes_15 o4839 (vp_inD (by decide +kernel)) (by decide +kernel) ?_
  refine x_callVR (M := M_X11_slotsWithShapes) (M' := M_X6_isThere) rfl rfl dX11_slotsWithShapes_16 m_X6_isThere t_1050 t_1051 t_1052 (q4898 hl o4899) rfl rfl o4899 rfl (Nat.le_of_ble_eq_true rfl) (Nat.le_of_ble_eq_true rfl) (Nat.le_of_ble_eq_true rfl) (Nat.le_of_ble_eq_true rfl) ?_
  refine x_if_eq (M := M_X11_slotsWithShapes) (tgt := 25) dX11_slotsWithShapes_19 (by decide) (fun _ => ?_) (fun q => absurd q (by decide +kernel))
  refine x_iinc (M := M_X11_slotsWithShapes) dX11_slotsWithShapes_25 rfl (Nat.le_of_ble_eq_true rfl) rfl ?_
  refine x_lvs (M := M_X11_slotsWithShapes) (lv' := [some (.ref 32), some (.int (Int32.ofInt 0)), some (.int (Int32.ofInt 20))]) (by rw [(by decide +kernel : (Int32.ofInt 19) + Int32.ofInt 1 = (Int32.ofInt 20))] <;> rfl) ?_
  refine x_goto (M := M_X11_slotsWithShapes) (tgt := 4) dX11_slotsWithShapes_28 (by decide) ?_
  refine x_iload_n (M := M_X11_slotsWithShapes) dX11_slotsWithShapes_4 rfl ?_
  refine x_bipush (M := M_X11_slotsWithShapes) dX11_slotsWithShapes_5 ?_
  refine x_icmp_ge (M := M_X11_slotsWithShapes) (tgt := 31) dX11_slotsWithShapes_7 (by decide) (fun q => absurd q (by decide +kernel)) (fun _ => ?_)
  refine x_aload_n (M := M_X11_slotsWithShapes) dX11_slotsWithShapes_10 rfl ?_
  refine x_getf (M := M_X11_slotsWithShapes) (ci := 14) (C := RX11) (T := TX11) (N := 19) (ty := tyX11) cl14 dX11_slotsWithShapes_11 o4838 0 (by decide) t_563 (v := .ref 33) rfl ?_
  refine x_iload_n (M := M_X11_slotsWithShapes) dX11_slotsWithShapes_14 rfl ?_
  refine x_aald (M := M_X11_slotsWithShapes) (b := 114) dX11_slotsWithShapes_15 o4839 (vp_inD (by decide +kernel)) (by decide +kernel) ?_
  refine x_callVR (M := M_X11_slotsWithShapes) (M' := M_X6_isThere) rfl rfl dX11_slotsWithShapes_16 m_X6_isThere t_1050 t_1051 t_1052 (q4901 hl o4902) rfl rfl o4902 rfl (Nat.le_of_ble_eq_true rfl) (Nat.le_of_ble_eq_true rfl) (Nat.le_of_ble_eq_true rfl) (Nat.le_of_ble_eq_true rfl) ?_
  refine x_if_eq (M := M_X11_slotsWithShapes) (tgt := 25) dX11_slotsWithShapes_19 (by decide) (fun _ => ?_) (fun q => absurd q (by decide +kernel))
  refine x_iinc (M := M_X11_slotsWithShapes) dX11_slotsWithShapes_25 rfl (Nat.le_of_ble_eq_true rfl) rfl ?_
  refine x_lvs (M := M_X11_slotsWithShapes) (lv' := [some (.ref 32), some (.int (Int32.ofInt 0)), some (.int (Int32.ofInt 21))]) (by rw [(by decide +kernel : (Int32.ofInt 20) + Int32.ofInt 1 = (Int32.ofInt 21))] <;> rfl) ?_
  refine x_goto (M := M_X11_slotsWithShapes) (tgt := 4) dX11_slotsWithShapes_28 (by decide) ?_
  refine x_iload_n (M := M_X11_slotsWithShapes) dX11_slotsWithShapes_4 rfl ?_
  refine x_bipush (M := M_X11_slotsWithShapes) dX11_slotsWithShapes_5 ?_
  refine x_icmp_ge (M := M_X11_slotsWithShapes) (tgt := 31) dX11_slotsWithShapes_7 (by decide) (fun q => absurd q (by decide +kernel)) (fun _ => ?_)
  refine x_aload_n (M := M_X11_slotsWithShapes) dX11_slotsWithShapes_10 rfl ?_
  refine x_getf (M := M_X11_slotsWithShapes) (ci := 14) (C := RX11) (T := TX11) (N := 19) (ty := tyX11) cl14 dX11_slotsWithShapes_11 o4838 0 (by decide) t_563 (v := .ref 33) rfl ?_
  refine x_iload_n (M := M_X11_slotsWithShapes) dX11_slotsWithShapes_14 rfl ?_
  refine x_aald (M := M_X11_slotsWithShapes) (b := 118) dX11_slotsWithShapes_15 o4839 (vp_inD (by decide +kernel)) (by decide +kernel) ?_
  refine x_callVR (M := M_X11_slotsWithShapes) (M' := M_X6_isThere) rfl rfl dX11_slotsWithShapes_16 m_X6_isThere t_1050 t_1051 t_1052 (q4904 hl o4905) rfl rfl o4905 rfl (Nat.le_of_ble_eq_true rfl) (Nat.le_of_ble_eq_true rfl) (Nat.le_of_ble_eq_true rfl) (Nat.le_of_ble_eq_true rfl) ?_
  refine x_if_eq (M := M_X11_slotsWithShapes) (tgt := 25) dX11_slotsWithShapes_19 (by decide) (fun _ => ?_) (fun q => absurd q (by decide +kernel))
  refine x_iinc (M := M_X11_slotsWithShapes) dX11_slotsWithShapes_25 rfl (Nat.le_of_ble_eq_true rfl) rfl ?_
  refine x_lvs (M := M_X11_slotsWithShapes) (lv' := [some (.ref 32), some (.int (Int32.ofInt 0)), some (.int (Int32.ofInt 22))]) (by rw [(by decide +kernel : (Int32.ofInt 21) + Int32.ofInt 1 = (Int32.ofInt 22))] <;> rfl) ?_
  refine x_goto (M := M_X11_slotsWithShapes) (tgt := 4) dX11_slotsWithShapes_28 (by decide) ?_
  refine x_iload_n (M := M_X11_slotsWithShapes) dX11_slotsWithShapes_4 rfl ?_
  refine x_bipush (M := M_X11_slotsWithShapes) dX11_slotsWithShapes_5 ?_
  refine x_icmp_ge (M := M_X11_slotsWithShapes) (tgt := 31) dX11_slotsWithShapes_7 (by decide) (fun q => absurd q (by decide +kernel)) (fun _ => ?_)
  refine x_aload_n (M := M_X11_slotsWithShapes) dX11_slotsWithShapes_10 rfl ?_
  refine x_getf (M := M_X11_slotsWithShapes) (ci := 14) (C := RX11) (T := TX11) (N := 19) (ty := tyX11) cl14 dX11_slotsWithShapes_11 o4838 0 (by decide) t_563 (v := .ref 33) rfl ?_
  refine x_iload_n (M := M_X11_slotsWithShapes) dX11_slotsWithShapes_14 rfl ?_
  refine x_aald (M := M_X11_slotsWithShapes) (b := 122) dX11_slotsWithShapes_15 o4839 (vp_inD (by decide +kernel)) (by decide +kernel) ?_
  refine x_callVR (M := M_X11_slotsWithShapes) (M' := M_X6_isThere) rfl rfl dX11_slotsWithShapes_16 m_X6_isThere t_1050 t_1051 t_1052 (q4907 hl o4908) rfl rfl o4908 rfl (Nat.le_of_ble_eq_true rfl) (Nat.le_of_ble_eq_true rfl) (Nat.le_of_ble_eq_true rfl) (Nat.le_of_ble_eq_true rfl) ?_
  refine x_if_eq (M := M_X11_slotsWithShapes) (tgt := 25) dX11_slotsWithShapes_19 (by decide) (fun _ => ?_) (fun q => absurd q (by decide +kernel))
  refine x_iinc (M := M_X11_slotsWithShapes) dX11_slotsWithShapes_25 rfl (Nat.le_of_ble_eq_true rfl) rfl ?_
  refine x_lvs (M := M_X11_slotsWithShapes) (lv' := [some (.ref 32), some (.int (Int32.ofInt 0)), some (.int (Int32.ofInt 23))]) (by rw [(by decide +kernel : (Int32.ofInt 22) + Int32.ofInt 1 = (Int32.ofInt 23))] <;> rfl) ?_
  refine x_goto (M := M_X11_slotsWithShapes) (tgt := 4) dX11_slotsWithShapes_28 (by decide) ?_
  refine x_iload_n (M := M_X11_slotsWithShapes) dX11_slotsWithShapes_4 rfl ?_
  refine x_bipush (M := M_X11_slotsWithShapes) dX11_slotsWithShapes_5 ?_
  refine x_icmp_ge (M := M_X11_slotsWithShapes) (tgt := 31) dX11_slotsWithShapes_7 (by decide) (fun q => absurd q (by decide +kernel)) (fun _ => ?_)
  refine x_aload_n (M := M_X11_slotsWithShapes) dX11_slotsWithShapes_10 rfl ?_
  refine x_getf (M := M_X11_slotsWithShapes) (ci := 14) (C := RX11) (T := TX11) (N := 19) (ty := tyX11) cl14 dX11_slotsWithShapes_11 o4838 0 (by decide) t_563 (v := .ref 33) rfl ?_
  refine x_iload_n (M := M_X11_slotsWithShapes) dX11_slotsWithShapes_14 rfl ?_
  refine x_aald (M := M_X11_slotsWithShapes) (b := 126) dX11_slotsWithShapes_15 o4839 (vp_inD (by decide +kernel)) (by decide +kernel) ?_
  refine x_callVR (M := M_X11_slotsWithShapes) (M' := M_X6_isThere) rfl rfl dX11_slotsWithShapes_16 m_X6_isThere t_1050 t_1051 t_1052 (q4910 hl o4911) rfl rfl o4911 rfl (Nat.le_of_ble_eq_true rfl) (Nat.le_of_ble_eq_true rfl) (Nat.le_of_ble_eq_true rfl) (Nat.le_of_ble_eq_true rfl) ?_
  refine x_if_eq (M := M_X11_slotsWithShapes) (tgt := 25) dX11_slotsWithShapes_19 (by decide) (fun _ => ?_) (fun q => absurd q (by decide +kernel))
  refine x_iinc (M := M_X11_slotsWithShapes) dX11_slotsWithShapes_25 rfl (Nat.le_of_ble_eq_true rfl) rfl ?_
  refine x_lvs (M := M_X11_slotsWithShapes) (lv' := [some (.ref 32), some (.int (Int32.ofInt 0)), some (.int (Int32.ofInt 24))]) (by rw [(by decide +kernel : (Int32.ofInt 23) + Int32.ofInt 1 = (Int32.ofInt 24))] <;> rfl) ?_
  refine x_goto (M := M_X11_slotsWithShapes) (tgt := 4) dX11_slotsWithShapes_28 (by decide) ?_
  refine x_iload_n (M := M_X11_slotsWithShapes) dX11_slotsWithShapes_4 rfl ?_
  refine x_bipush (M := M_X11_slotsWithShapes) dX11_slotsWithShapes_5 ?_
  refine x_icmp_ge (M := M_X11_slotsWithShapes) (tgt := 31) dX11_slotsWithShapes_7 (by decide) (fun q => absurd q (by decide +kernel)) (fun _ => ?_)
  refine x_aload_n (M := M_X11_slotsWithShapes) dX11_slotsWithShapes_10 rfl ?_
  refine x_getf (M := M_X11_slotsWithShapes) (ci := 14) (C := RX11) (T := TX11) (N := 19) (ty := tyX11) cl14 dX11_slotsWithShapes_11 o4838 0 (by decide) t_563 (v := .ref 33) rfl ?_
  refine x_iload_n (M := M_X11_slotsWithShapes) dX11_slotsWithShapes_14 rfl ?_
  refine x_aald (M := M_X11_slotsWithShapes) (b := 130) dX11_slotsWithShapes_15 o4839 (vp_inD (by decide +kernel)) (by decide +kernel) ?_
  refine x_callVR (M := M_X11_slotsWithShapes) (M' := M_X6_isThere) rfl rfl dX11_slotsWithShapes_16 m_X6_isThere t_1050 t_1051 t_1052 (q4913 hl o4914) rfl rfl o4914 rfl (Nat.le_of_ble_eq_true rfl) (Nat.le_of_ble_eq_true rfl) (Nat.le_of_ble_eq_true rfl) (Nat.le_of_ble_eq_true rfl) ?_
  refine x_if_eq (M := M_X11_slotsWithShapes) (tgt := 25) dX11_slotsWithShapes_19 (by decide) (fun _ => ?_) (fun q => absurd q (by decide +kernel))
  refine x_iinc (M := M_X11_slotsWithShapes) dX11_slotsWithShapes_25 rfl (Nat.le_of_ble_eq_true rfl) rfl ?_
  refine x_lvs (M := M_X11_slotsWithShapes) (lv' := [some (.ref 32), some (.int (Int32.ofInt 0)), some (.int (Int32.ofInt 25))]) (by rw [(by decide +kernel : (Int32.ofInt 24) + Int32.ofInt 1 = (Int32.ofInt 25))] <;> rfl) ?_
  refine x_goto (M := M_X11_slotsWithShapes) (tgt := 4) dX11_slotsWithShapes_28 (by decide) ?_
  refine x_iload_n (M := M_X11_slotsWithShapes) dX11_slotsWithShapes_4 rfl ?_
  refine x_bipush (M := M_X11_slotsWithShapes) dX11_slotsWithShapes_5 ?_
  refine x_icmp_ge (M := M_X11_slotsWithShapes) (tgt := 31) dX11_slotsWithShapes_7 (by decide) (fun q => absurd q (by decide +kernel)) (fun _ => ?_)
  refine x_aload_n (M := M_X11_slotsWithShapes) dX11_slotsWithShapes_10 rfl ?_
  refine x_getf (M := M_X11_slotsWithShapes) (ci := 14) (C := RX11) (T := TX11) (N := 19) (ty := tyX11) cl14 dX11_slotsWithShapes_11 o4838 0 (by decide) t_563 (v := .ref 33) rfl ?_
  refine x_iload_n (M := M_X11_slotsWithShapes) dX11_slotsWithShapes_14 rfl ?_
  refine x_aald (M := M_X11_slotsWithShapes) (b := 134) dX11_slotsWithShapes_15 o4839 (vp_inD (by decide +kernel)) (by decide +kernel) ?_
  refine x_callVR (M := M_X11_slotsWithShapes) (M' := M_X6_isThere) rfl rfl dX11_slotsWithShapes_16 m_X6_isThere t_1050 t_1051 t_1052 (q4916 hl o4917) rfl rfl o4917 rfl (Nat.le_of_ble_eq_true rfl) (Nat.le_of_ble_eq_true rfl) (Nat.le_of_ble_eq_true rfl) (Nat.le_of_ble_eq_true rfl) ?_
  refine x_if_eq (M := M_X11_slotsWithShapes) (tgt := 25) dX11_slotsWithShapes_19 (by decide) (fun _ => ?_) (fun q => absurd q (by decide +kernel))
  refine x_iinc (M := M_X11_slotsWithShapes) dX11_slotsWithShapes_25 rfl (Nat.le_of_ble_eq_true rfl) rfl ?_
  refine x_lvs (M := M_X11_slotsWithShapes) (lv' := [some (.ref 32), some (.int (Int32.ofInt 0)), some (.int (Int32.ofInt 26))]) (by rw [(by decide +kernel : (Int32.ofInt 25) + Int32.ofInt 1 = (Int32.ofInt 26))] <;> rfl) ?_
  refine x_goto (M := M_X11_slotsWithShapes) (tgt := 4) dX11_slotsWithShapes_28 (by decide) ?_
  refine x_iload_n (M := M_X11_slotsWithShapes) dX11_slotsWithShapes_4 rfl ?_
  refine x_bipush (M := M_X11_slotsWithShapes) dX11_slotsWithShapes_5 ?_
  refine x_icmp_ge (M := M_X11_slotsWithShapes) (tgt := 31) dX11_slotsWithShapes_7 (by decide) (fun q => absurd q (by decide +kernel)) (fun _ => ?_)
  refine x_aload_n (M := M_X11_slotsWithShapes) dX11_slotsWithShapes_10 rfl ?_
  refine x_getf (M := M_X11_slotsWithShapes) (ci := 14) (C := RX11) (T := TX11) (N := 19) (ty := tyX11) cl14 dX11_slotsWithShapes_11 o4838 0 (by decide) t_563 (v := .ref 33) rfl ?_
  refine x_iload_n (M := M_X11_slotsWithShapes) dX11_slotsWithShapes_14 rfl ?_
  refine x_aald (M := M_X11_slotsWithShapes) (b := 138) dX11_slotsWithShapes_15 o4839 (vp_inD (by decide +kernel)) (by decide +kernel) ?_
  refine x_callVR (M := M_X11_slotsWithShapes) (M' := M_X6_isThere) rfl rfl dX11_slotsWithShapes_16 m_X6_isThere t_1050 t_1051 t_1052 (q4919 hl o4920) rfl rfl o4920 rfl (Nat.le_of_ble_eq_true rfl) (Nat.le_of_ble_eq_true rfl) (Nat.le_of_ble_eq_true rfl) (Nat.le_of_ble_eq_true rfl) ?_
  refine x_if_eq (M := M_X11_slotsWithShapes) (tgt := 25) dX11_slotsWithShapes_19 (by decide) (fun _ => ?_) (fun q => absurd q (by decide +kernel))
  refine x_iinc (M := M_X11_slotsWithShapes) dX11_slotsWithShapes_25 rfl (Nat.le_of_ble_eq_true rfl) rfl ?_
  refine x_lvs (M := M_X11_slotsWithShapes) (lv' := [some (.ref 32), some (.int (Int32.ofInt 0)), some (.int (Int32.ofInt 27))]) (by rw [(by decide +kernel : (Int32.ofInt 26) + Int32.ofInt 1 = (Int32.ofInt 27))] <;> rfl) ?_
  refine x_goto (M := M_X11_slotsWithShapes) (tgt := 4) dX11_slotsWithShapes_28 (by decide) ?_
  refine x_iload_n (M := M_X11_slotsWithShapes) dX11_slotsWithShapes_4 rfl ?_
  refine x_bipush (M := M_X11_slotsWithShapes) dX11_slotsWithShapes_5 ?_
  refine x_icmp_ge (M := M_X11_slotsWithShapes) (tgt := 31) dX11_slotsWithShapes_7 (by decide) (fun q => absurd q (by decide +kernel)) (fun _ => ?_)
  refine x_aload_n (M := M_X11_slotsWithShapes) dX11_slotsWithShapes_10 rfl ?_
  refine x_getf (M := M_X11_slotsWithShapes) (ci := 14) (C := RX11) (T := TX11) (N := 19) (ty := tyX11) cl14 dX11_slotsWithShapes_11 o4838 0 (by decide) t_563 (v := .ref 33) rfl ?_
  refine x_iload_n (M := M_X11_slotsWithShapes) dX11_slotsWithShapes_14 rfl ?_
  refine x_aald (M := M_X11_slotsWithShapes) (b := 142) dX11_slotsWithShapes_15 o4839 (vp_inD (by decide +kernel)) (by decide +kernel) ?_
  refine x_callVR (M := M_X11_slotsWithShapes) (M' := M_X6_isThere) rfl rfl dX11_slotsWithShapes_16 m_X6_isThere t_1050 t_1051 t_1052 (q4922 hl o4923) rfl rfl o4923 rfl (Nat.le_of_ble_eq_true rfl) (Nat.le_of_ble_eq_true rfl) (Nat.le_of_ble_eq_true rfl) (Nat.le_of_ble_eq_true rfl) ?_
  refine x_if_eq (M := M_X11_slotsWithShapes) (tgt := 25) dX11_slotsWithShapes_19 (by decide) (fun _ => ?_) (fun q => absurd q (by decide +kernel))
  refine x_iinc (M := M_X11_slotsWithShapes) dX11_slotsWithShapes_25 rfl (Nat.le_of_ble_eq_true rfl) rfl ?_
  refine x_lvs (M := M_X11_slotsWithShapes) (lv' := [some (.ref 32), some (.int (Int32.ofInt 0)), some (.int (Int32.ofInt 28))]) (by rw [(by decide +kernel : (Int32.ofInt 27) + Int32.ofInt 1 = (Int32.ofInt 28))] <;> rfl) ?_
  refine x_goto (M := M_X11_slotsWithShapes) (tgt := 4) dX11_slotsWithShapes_28 (by decide) ?_
  refine x_iload_n (M := M_X11_slotsWithShapes) dX11_slotsWithShapes_4 rfl ?_
  refine x_bipush (M := M_X11_slotsWithShapes) dX11_slotsWithShapes_5 ?_
  refine x_icmp_ge (M := M_X11_slotsWithShapes) (tgt := 31) dX11_slotsWithShapes_7 (by decide) (fun q => absurd q (by decide +kernel)) (fun _ => ?_)
  refine x_aload_n (M := M_X11_slotsWithShapes) dX11_slotsWithShapes_10 rfl ?_
  refine x_getf (M := M_X11_slotsWithShapes) (ci := 14) (C := RX11) (T := TX11) (N := 19) (ty := tyX11) cl14 dX11_slotsWithShapes_11 o4838 0 (by decide) t_563 (v := .ref 33) rfl ?_
  refine x_iload_n (M := M_X11_slotsWithShapes) dX11_slotsWithShapes_14 rfl ?_
  refine x_aald (M := M_X11_slotsWithShapes) (b := 146) dX11_slotsWithShapes_15 o4839 (vp_inD (by decide +kernel)) (by decide +kernel) ?_
  refine x_callVR (M := M_X11_slotsWithShapes) (M' := M_X6_isThere) rfl rfl dX11_slotsWithShapes_16 m_X6_isThere t_1050 t_1051 t_1052 (q4925 hl o4926) rfl rfl o4926 rfl (Nat.le_of_ble_eq_true rfl) (Nat.le_of_ble_eq_true rfl) (Nat.le_of_ble_eq_true rfl) (Nat.le_of_ble_eq_true rfl) ?_
  refine x_if_eq (M := M_X11_slotsWithShapes) (tgt := 25) dX11_slotsWithShapes_19 (by decide) (fun _ => ?_) (fun q => absurd q (by decide +kernel))
  refine x_iinc (M := M_X11_slotsWithShapes) dX11_slotsWithShapes_25 rfl (Nat.le_of_ble_eq_true rfl) rfl ?_
  refine x_lvs (M := M_X11_slotsWithShapes) (lv' := [some (.ref 32), some (.int (Int32.ofInt 0)), some (.int (Int32.ofInt 29))]) (by rw [(by decide +kernel : (Int32.ofInt 28) + Int32.ofInt 1 = (Int32.ofInt 29))] <;> rfl) ?_
  refine x_goto (M := M_X11_slotsWithShapes) (tgt := 4) dX11_slotsWithShapes_28 (by decide) ?_
  refine x_iload_n (M := M_X11_slotsWithShapes) dX11_slotsWithShapes_4 rfl ?_
  refine x_bipush (M := M_X11_slotsWithShapes) dX11_slotsWithShapes_5 ?_
  refine x_icmp_ge (M := M_X11_slotsWithShapes) (tgt := 31) dX11_slotsWithShapes_7 (by decide) (fun q => absurd q (by decide +kernel)) (fun _ => ?_)
  refine x_aload_n (M := M_X11_slotsWithShapes) dX11_slotsWithShapes_10 rfl ?_
  refine x_getf (M := M_X11_slotsWithShapes) (ci := 14) (C := RX11) (T := TX11) (N := 19) (ty := tyX11) cl14 dX11_slotsWithShapes_11 o4838 0 (by decide) t_563 (v := .ref 33) rfl ?_
  refine x_iload_n (M := M_X11_slotsWithShapes) dX11_slotsWithShapes_14 rfl ?_
  refine x_aald (M := M_X11_slotsWithShapes) (b := 150) dX11_slotsWithShapes_15 o4839 (vp_inD (by decide +kernel)) (by decide +kernel) ?_
  refine x_callVR (M := M_X11_slotsWithShapes) (M' := M_X6_isThere) rfl rfl dX11_slotsWithShapes_16 m_X6_isThere t_1050 t_1051 t_1052 (q4928 hl o4929) rfl rfl o4929 rfl (Nat.le_of_ble_eq_true rfl) (Nat.le_of_ble_eq_true rfl) (Nat.le_of_ble_eq_true rfl) (Nat.le_of_ble_eq_true rfl) ?_
  refine x_if_eq (M := M_X11_slotsWithShapes) (tgt := 25) dX11_slotsWithShapes_19 (by decide) (fun _ => ?_) (fun q => absurd q (by decide +kernel))
  refine x_iinc (M := M_X11_slotsWithShapes) dX11_slotsWithShapes_25 rfl (Nat.le_of_ble_eq_true rfl) rfl ?_
  refine x_lvs (M := M_X11_slotsWithShapes) (lv' := [some (.ref 32), some (.int (Int32.ofInt 0)), some (.int (Int32.ofInt 30))]) (by rw [(by decide +kernel : (Int32.ofInt 29) + Int32.ofInt 1 = (Int32.ofInt 30))] <;> rfl) ?_
  refine x_goto (M := M_X11_slotsWithShapes) (tgt := 4) dX11_slotsWithShapes_28 (by decide) ?_
  refine x_iload_n (M := M_X11_slotsWithShapes) dX11_slotsWithShapes_4 rfl ?_
  refine x_bipush (M := M_X11_slotsWithShapes) dX11_slotsWithShapes_5 ?_
  refine x_icmp_ge (M := M_X11_slotsWithShapes) (tgt := 31) dX11_slotsWithShapes_7 (by decide) (fun q => absurd q (by decide +kernel)) (fun _ => ?_)
  refine x_aload_n (M := M_X11_slotsWithShapes) dX11_slotsWithShapes_10 rfl ?_
  refine x_getf (M := M_X11_slotsWithShapes) (ci := 14) (C := RX11) (T := TX11) (N := 19) (ty := tyX11) cl14 dX11_slotsWithShapes_11 o4838 0 (by decide) t_563 (v := .ref 33) rfl ?_
  refine x_iload_n (M := M_X11_slotsWithShapes) dX11_slotsWithShapes_14 rfl ?_
  refine x_aald (M := M_X11_slotsWithShapes) (b := 154) dX11_slotsWithShapes_15 o4839 (vp_inD (by decide +kernel)) (by decide +kernel) ?_
  refine x_callVR (M := M_X11_slotsWithShapes) (M' := M_X6_isThere) rfl rfl dX11_slotsWithShapes_16 m_X6_isThere t_1050 t_1051 t_1052 (q4931 hl o4932) rfl rfl o4932 rfl (Nat.le_of_ble_eq_true rfl) (Nat.le_of_ble_eq_true rfl) (Nat.le_of_ble_eq_true rfl) (Nat.le_of_ble_eq_true rfl) ?_
  refine x_if_eq (M := M_X11_slotsWithShapes) (tgt := 25) dX11_slotsWithShapes_19 (by decide) (fun _ => ?_) (fun q => absurd q (by decide +kernel))
  refine x_iinc (M := M_X11_slotsWithShapes) dX11_slotsWithShapes_25 rfl (Nat.le_of_ble_eq_true rfl) rfl ?_
  refine x_lvs (M := M_X11_slotsWithShapes) (lv' := [some (.ref 32), some (.int (Int32.ofInt 0)), some (.int (Int32.ofInt 31))]) (by rw [(by decide +kernel : (Int32.ofInt 30) + Int32.ofInt 1 = (Int32.ofInt 31))] <;> rfl) ?_
  refine x_goto (M := M_X11_slotsWithShapes) (tgt := 4) dX11_slotsWithShapes_28 (by decide) ?_
  refine x_iload_n (M := M_X11_slotsWithShapes) dX11_slotsWithShapes_4 rfl ?_
  refine x_bipush (M := M_X11_slotsWithShapes) dX11_slotsWithShapes_5 ?_
  refine x_icmp_ge (M := M_X11_slotsWithShapes) (tgt := 31) dX11_slotsWithShapes_7 (by decide) (fun q => absurd q (by decide +kernel)) (fun _ => ?_)
  refine x_aload_n (M := M_X11_slotsWithShapes) dX11_slotsWithShapes_10 rfl ?_
  refine x_getf (M := M_X11_slotsWithShapes) (ci := 14) (C := RX11) (T := TX11) (N := 19) (ty := tyX11) cl14 dX11_slotsWithShapes_11 o4838 0 (by decide) t_563 (v := .ref 33) rfl ?_
  refine x_iload_n (M := M_X11_slotsWithShapes) dX11_slotsWithShapes_14 rfl ?_
  refine x_aald (M := M_X11_slotsWithShapes) (b := 158) dX11_slotsWithShapes_15 o4839 (vp_inD (by decide +kernel)) (by decide +kernel) ?_
  refine x_callVR (M := M_X11_slotsWithShapes) (M' := M_X6_isThere) rfl rfl dX11_slotsWithShapes_16 m_X6_isThere t_1050 t_1051 t_1052 (q4934 hl o4935) rfl rfl o4935 rfl (Nat.le_of_ble_eq_true rfl) (Nat.le_of_ble_eq_true rfl) (Nat.le_of_ble_eq_true rfl) (Nat.le_of_ble_eq_true rfl) ?_
  refine x_if_eq (M := M_X11_slotsWithShapes) (tgt := 25) dX11_slotsWithShapes_19 (by decide) (fun _ => ?_) (fun q => absurd q (by decide +kernel))
  refine x_iinc (M := M_X11_slotsWithShapes) dX11_slotsWithShapes_25 rfl (Nat.le_of_ble_eq_true rfl) rfl ?_
  refine x_lvs (M := M_X11_slotsWithShapes) (lv' := [some (.ref 32), some (.int (Int32.ofInt 0)), some (.int (Int32.ofInt 32))]) (by rw [(by decide +kernel : (Int32.ofInt 31) + Int32.ofInt 1 = (Int32.ofInt 32))] <;> rfl) ?_
  refine x_goto (M := M_X11_slotsWithShapes) (tgt := 4) dX11_slotsWithShapes_28 (by decide) ?_
  refine x_iload_n (M := M_X11_slotsWithShapes) dX11_slotsWithShapes_4 rfl ?_
  refine x_bipush (M := M_X11_slotsWithShapes) dX11_slotsWithShapes_5 ?_
  refine x_icmp_ge (M := M_X11_slotsWithShapes) (tgt := 31) dX11_slotsWithShapes_7 (by decide) (fun _ => ?_) (fun q => absurd q (by decide +kernel))
  refine x_iload_n (M := M_X11_slotsWithShapes) dX11_slotsWithShapes_31 rfl ?_
  exact x_iret (M := M_X11_slotsWithShapes) dX11_slotsWithShapes_32 rfl ⟨rfl, rfl⟩ (Nat.le_of_ble_eq_true rfl) (Nat.le_of_ble_eq_true rfl)
set_option maxRecDepth 10000 in
theorem q4969 {l : Launch} {E : EE} (hl : l.stackTraces = false) {h : HP} {a0 : Int32} {a1 : Int32} (c0 : ¬ (a0.toInt < 0)) (c1 : a0.toInt < 32) (c2 : ¬ (a1.toInt < 0)) (c3 : ¬ (5 < a1.toInt)) (c4 : ¬ (a1.toInt = 0)) (c5 : ¬ (a1.toInt = 1)) (c6 : ¬ (a1.toInt = 2)) (c7 : ¬ (a1.toInt = 3)) (c8 : a1.toInt = 4) (o4836 : ob h 32 = some (.inr (14, [.ref 33, .ref 162, .ref 166, .int (0 : Int32), .int (0 : Int32), .int (0 : Int32), .ref 167, .ref 170, .ref 173, .ref 177, .ref 193, .ref 208, .ref 222, .ref 238, .ref 252, .ref 274, .ref 275, .ref 276, .int (0 : Int32)]))) (o4837 : ob h 33 = some (.inl (4, 32, .inr (.inr (.inr (.inr (shf 1 32))))))) (o4937 : ob h 34 = some (.inr (9, [.ref 35, .ref 36, .ref 37, .int (0 : Int32), .int (0 : Int32)]))) (o4938 : ob h 38 = some (.inr (9, [.ref 39, .ref 40, .ref 41, .int (0 : Int32), .int (0 : Int32)]))) (o4939 : ob h 42 = some (.inr (9, [.ref 43, .ref 44, .ref 45, .int (0 : Int32), .int (0 : Int32)]))) (o4940 : ob h 46 = some (.inr (9, [.ref 47, .ref 48, .ref 49, .int (0 : Int32), .int (0 : Int32)]))) (o4941 : ob h 50 = some (.inr (9, [.ref 51, .ref 52, .ref 53, .int (0 : Int32), .int (0 : Int32)]))) (o4942 : ob h 54 = some (.inr (9, [.ref 55, .ref 56, .ref 57, .int (0 : Int32), .int (0 : Int32)]))) (o4943 : ob h 58 = some (.inr (9, [.ref 59, .ref 60, .ref 61, .int (0 : Int32), .int (0 : Int32)]))) (o4944 : ob h 62 = some (.inr (9, [.ref 63, .ref 64, .ref 65, .int (0 : Int32), .int (0 : Int32)]))) (o4945 : ob h 66 = some (.inr (9, [.ref 67, .ref 68, .ref 69, .int (0 : Int32), .int (0 : Int32)]))) (o4946 : ob h 70 = some (.inr (9, [.ref 71, .ref 72, .ref 73, .int (0 : Int32), .int (0 : Int32)]))) (o4947 : ob h 74 = some (.inr (9, [.ref 75, .ref 76, .ref 77, .int (0 : Int32), .int (0 : Int32)]))) (o4948 : ob h 78 = some (.inr (9, [.ref 79, .ref 80, .ref 81, .int (0 : Int32), .int (0 : Int32)]))) (o4949 : ob h 82 = some (.inr (9, [.ref 83, .ref 84, .ref 85, .int (0 : Int32), .int (0 : Int32)]))) (o4950 : ob h 86 = some (.inr (9, [.ref 87, .ref 88, .ref 89, .int (0 : Int32), .int (0 : Int32)]))) (o4951 : ob h 90 = some (.inr (9, [.ref 91, .ref 92, .ref 93, .int (0 : Int32), .int (0 : Int32)]))) (o4952 : ob h 94 = some (.inr (9, [.ref 95, .ref 96, .ref 97, .int (0 : Int32), .int (0 : Int32)]))) (o4953 : ob h 98 = some (.inr (9, [.ref 99, .ref 100, .ref 101, .int (0 : Int32), .int (0 : Int32)]))) (o4954 : ob h 102 = some (.inr (9, [.ref 103, .ref 104, .ref 105, .int (0 : Int32), .int (0 : Int32)]))) (o4955 : ob h 106 = some (.inr (9, [.ref 107, .ref 108, .ref 109, .int (0 : Int32), .int (0 : Int32)]))) (o4956 : ob h 110 = some (.inr (9, [.ref 111, .ref 112, .ref 113, .int (0 : Int32), .int (0 : Int32)]))) (o4957 : ob h 114 = some (.inr (9, [.ref 115, .ref 116, .ref 117, .int (0 : Int32), .int (0 : Int32)]))) (o4958 : ob h 118 = some (.inr (9, [.ref 119, .ref 120, .ref 121, .int (0 : Int32), .int (0 : Int32)]))) (o4959 : ob h 122 = some (.inr (9, [.ref 123, .ref 124, .ref 125, .int (0 : Int32), .int (0 : Int32)]))) (o4960 : ob h 126 = some (.inr (9, [.ref 127, .ref 128, .ref 129, .int (0 : Int32), .int (0 : Int32)]))) (o4961 : ob h 130 = some (.inr (9, [.ref 131, .ref 132, .ref 133, .int (0 : Int32), .int (0 : Int32)]))) (o4962 : ob h 134 = some (.inr (9, [.ref 135, .ref 136, .ref 137, .int (0 : Int32), .int (0 : Int32)]))) (o4963 : ob h 138 = some (.inr (9, [.ref 139, .ref 140, .ref 141, .int (0 : Int32), .int (0 : Int32)]))) (o4964 : ob h 142 = some (.inr (9, [.ref 143, .ref 144, .ref 145, .int (0 : Int32), .int (0 : Int32)]))) (o4965 : ob h 146 = some (.inr (9, [.ref 147, .ref 148, .ref 149, .int (0 : Int32), .int (0 : Int32)]))) (o4966 : ob h 150 = some (.inr (9, [.ref 151, .ref 152, .ref 153, .int (0 : Int32), .int (0 : Int32)]))) (o4967 : ob h 154 = some (.inr (9, [.ref 155, .ref 156, .ref 157, .int (0 : Int32), .int (0 : Int32)]))) (o4968 : ob h 158 = some (.inr (9, [.ref 159, .ref 160, .ref 161, .int (0 : Int32), .int (0 : Int32)]))) : en_C l E M_X11_count 2 0 0 [.ref 32, .int a0, .int a1] h (pR (some (.int (Int32.ofInt 0))) h) := by
  refine en_mk m_X11_count rfl hl (Nat.le_of_ble_eq_true rfl) ?_
  refine x_aload_n (M := M_X11_count) dX11_count_0 rfl ?_
  refine x_iload_n (M := M_X11_count) dX11_count_1 rfl ?_
  refine x_callVR (M := M_X11_count) (M' := M_X11_slotNumbered) rfl rfl dX11_count_2 m_X11_slotNumbered t_744 t_746 s_2 (q425 hl c0 c1 o4836 o4837) rfl rfl o4836 rfl (Nat.le_of_ble_eq_true rfl) (Nat.le_of_ble_eq_true rfl) (Nat.le_of_ble_eq_true rfl) (Nat.le_of_ble_eq_true rfl) ?_
  refine x_astore_n (M := M_X11_count) dX11_count_5 (Nat.le_of_ble_eq_true rfl) rfl ?_
  refine x_iload_n (M := M_X11_count) dX11_count_6 rfl ?_
  refine x_tabIn (M := M_X11_count) (tgt := 67) (off := 60) dX11_count_7 (by have e9 : a1.toInt = 4 := (by have e8 : a1.toInt = a1.toInt := rfl; omega); rw [e9] <;> decide) (by have e9 : a1.toInt = 4 := (by have e8 : a1.toInt = a1.toInt := rfl; omega); rw [e9] <;> decide) (by have e9 : a1.toInt = 4 := (by have e8 : a1.toInt = a1.toInt := rfl; omega); rw [e9] <;> rfl) (by decide) ?_
  refine x_aload_n (M := M_X11_count) dX11_count_67 rfl ?_
  refine x_callVR (M := M_X11_count) (M' := M_X11_slotsWithShapes) rfl rfl dX11_count_68 m_X11_slotsWithShapes t_2298 t_2300 s_147 (q4936 hl o4836 o4837 o4937 o4938 o4939 o4940 o4941 o4942 o4943 o4944 o4945 o4946 o4947 o4948 o4949 o4950 o4951 o4952 o4953 o4954 o4955 o4956 o4957 o4958 o4959 o4960 o4961 o4962 o4963 o4964 o4965 o4966 o4967 o4968) rfl rfl o4836 rfl (Nat.le_of_ble_eq_true rfl) (Nat.le_of_ble_eq_true rfl) (Nat.le_of_ble_eq_true rfl) (Nat.le_of_ble_eq_true rfl) ?_
  exact x_iret (M := M_X11_count) dX11_count_71 rfl ⟨rfl, rfl⟩ (Nat.le_of_ble_eq_true rfl) (Nat.le_of_ble_eq_true rfl)
set_option maxRecDepth 10000 in
theorem q5013 {l : Launch} {E : EE} (hl : l.stackTraces = false) {h : HP} {a0 : Int32} {a1 : Int32} (c0 : ¬ (a0.toInt < 0)) (c1 : a0.toInt < 32) (c2 : ¬ (a1.toInt < 0)) (c3 : ¬ (5 < a1.toInt)) (c4 : ¬ (a1.toInt = 0)) (c5 : ¬ (a1.toInt = 1)) (c6 : ¬ (a1.toInt = 2)) (c7 : ¬ (a1.toInt = 3)) (c8 : a1.toInt = 4) (o4970 : ob h 32 = some (.inr (14, [.ref 33, .ref 162, .ref 166, .int (0 : Int32), .int (0 : Int32), .int (0 : Int32), .ref 167, .ref 170, .ref 173, .ref 177, .ref 193, .ref 208, .ref 222, .ref 238, .ref 252, .ref 274, .ref 275, .ref 276, .int (0 : Int32)]))) (o4971 : ob h 33 = some (.inl (4, 32, .inr (.inr (.inr (.inr (shf 1 32))))))) (o4972 : ob h 34 = some (.inr (9, [.ref 35, .ref 36, .ref 37, .int (0 : Int32), .int (0 : Int32)]))) (o4973 : ob h 38 = some (.inr (9, [.ref 39, .ref 40, .ref 41, .int (0 : Int32), .int (0 : Int32)]))) (o4974 : ob h 42 = some (.inr (9, [.ref 43, .ref 44, .ref 45, .int (0 : Int32), .int (0 : Int32)]))) (o4975 : ob h 46 = some (.inr (9, [.ref 47, .ref 48, .ref 49, .int (0 : Int32), .int (0 : Int32)]))) (o4976 : ob h 50 = some (.inr (9, [.ref 51, .ref 52, .ref 53, .int (0 : Int32), .int (0 : Int32)]))) (o4977 : ob h 54 = some (.inr (9, [.ref 55, .ref 56, .ref 57, .int (0 : Int32), .int (0 : Int32)]))) (o4978 : ob h 58 = some (.inr (9, [.ref 59, .ref 60, .ref 61, .int (0 : Int32), .int (0 : Int32)]))) (o4979 : ob h 62 = some (.inr (9, [.ref 63, .ref 64, .ref 65, .int (0 : Int32), .int (0 : Int32)]))) (o4980 : ob h 66 = some (.inr (9, [.ref 67, .ref 68, .ref 69, .int (0 : Int32), .int (0 : Int32)]))) (o4981 : ob h 70 = some (.inr (9, [.ref 71, .ref 72, .ref 73, .int (0 : Int32), .int (0 : Int32)]))) (o4982 : ob h 74 = some (.inr (9, [.ref 75, .ref 76, .ref 77, .int (0 : Int32), .int (0 : Int32)]))) (o4983 : ob h 78 = some (.inr (9, [.ref 79, .ref 80, .ref 81, .int (0 : Int32), .int (0 : Int32)]))) (o4984 : ob h 82 = some (.inr (9, [.ref 83, .ref 84, .ref 85, .int (0 : Int32), .int (0 : Int32)]))) (o4985 : ob h 86 = some (.inr (9, [.ref 87, .ref 88, .ref 89, .int (0 : Int32), .int (0 : Int32)]))) (o4986 : ob h 90 = some (.inr (9, [.ref 91, .ref 92, .ref 93, .int (0 : Int32), .int (0 : Int32)]))) (o4987 : ob h 94 = some (.inr (9, [.ref 95, .ref 96, .ref 97, .int (0 : Int32), .int (0 : Int32)]))) (o4988 : ob h 98 = some (.inr (9, [.ref 99, .ref 100, .ref 101, .int (0 : Int32), .int (0 : Int32)]))) (o4989 : ob h 102 = some (.inr (9, [.ref 103, .ref 104, .ref 105, .int (0 : Int32), .int (0 : Int32)]))) (o4990 : ob h 106 = some (.inr (9, [.ref 107, .ref 108, .ref 109, .int (0 : Int32), .int (0 : Int32)]))) (o4991 : ob h 110 = some (.inr (9, [.ref 111, .ref 112, .ref 113, .int (0 : Int32), .int (0 : Int32)]))) (o4992 : ob h 114 = some (.inr (9, [.ref 115, .ref 116, .ref 117, .int (0 : Int32), .int (0 : Int32)]))) (o4993 : ob h 118 = some (.inr (9, [.ref 119, .ref 120, .ref 121, .int (0 : Int32), .int (0 : Int32)]))) (o4994 : ob h 122 = some (.inr (9, [.ref 123, .ref 124, .ref 125, .int (0 : Int32), .int (0 : Int32)]))) (o4995 : ob h 126 = some (.inr (9, [.ref 127, .ref 128, .ref 129, .int (0 : Int32), .int (0 : Int32)]))) (o4996 : ob h 130 = some (.inr (9, [.ref 131, .ref 132, .ref 133, .int (0 : Int32), .int (0 : Int32)]))) (o4997 : ob h 134 = some (.inr (9, [.ref 135, .ref 136, .ref 137, .int (0 : Int32), .int (0 : Int32)]))) (o4998 : ob h 138 = some (.inr (9, [.ref 139, .ref 140, .ref 141, .int (0 : Int32), .int (0 : Int32)]))) (o4999 : ob h 142 = some (.inr (9, [.ref 143, .ref 144, .ref 145, .int (0 : Int32), .int (0 : Int32)]))) (o5000 : ob h 146 = some (.inr (9, [.ref 147, .ref 148, .ref 149, .int (0 : Int32), .int (0 : Int32)]))) (o5001 : ob h 150 = some (.inr (9, [.ref 151, .ref 152, .ref 153, .int (0 : Int32), .int (0 : Int32)]))) (o5002 : ob h 154 = some (.inr (9, [.ref 155, .ref 156, .ref 157, .int (0 : Int32), .int (0 : Int32)]))) (o5003 : ob h 158 = some (.inr (9, [.ref 159, .ref 160, .ref 161, .int (0 : Int32), .int (0 : Int32)]))) (o5008 : ob h 359 = some (.inl (1, 1, .inr (.inl (fun _ => 0))))) : en_C l E M_L_count 3 0 0 [.ref 32, .int a0, .int a1, .ref 359] h (pF (some (.int (Int32.ofInt 0))) [359] h (fun h' => ob h' 359 = some (.inl (1, 1, .inr (.inl (fun _ => 0)))) ∧ True)) := by
  refine en_mkW m_L_count rfl hl (Nat.le_of_ble_eq_true rfl) ?_
  refine x_aload_n (M := M_L_count) dL_count_0 rfl ?_
  refine x_iconst (M := M_L_count) dL_count_1 ?_
  refine x_aload_n (M := M_L_count) dL_count_2 rfl ?_
  refine x_iload_n (M := M_L_count) dL_count_3 rfl ?_
  refine x_iload_n (M := M_L_count) dL_count_4 rfl ?_
  refine x_callVH (M := M_L_count) (M' := M_X11_count) rfl dL_count_5 m_X11_count t_2294 t_2295 t_2296 o4970 rfl [.int a0, .int a1] rfl rfl (Nat.le_of_ble_eq_true rfl) (q4969 hl c0 c1 c2 c3 c4 c5 c6 c7 c8 o4970 o4971 o4972 o4973 o4974 o4975 o4976 o4977 o4978 o4979 o4980 o4981 o4982 o4983 o4984 o4985 o4986 o4987 o4988 o4989 o4990 o4991 o4992 o4993 o4994 o4995 o4996 o4997 o4998 o4999 o5000 o5001 o5002 o5003) (Nat.le_of_ble_eq_true rfl) (Nat.le_of_ble_eq_true rfl) (Nat.le_of_ble_eq_true rfl) (fun N h' hp => nomatch hp.1) (fun v h' hp => ?_)
  obtain ⟨e5007, rfl⟩ := hp
  cases e5007
  refine x_i2l (M := M_L_count) dL_count_8 ?_
  refine x_norm (M := M_L_count) (st' := [.long (Int64.ofInt 0), .int (Int32.ofInt 0), .ref 359]) rfl (vj_cons (by decide +kernel : ((Int32.ofInt 0).toInt64) = (Int64.ofInt 0)) rfl) rfl rfl rfl ?_
  refine y_last (M := M_L_count) (k := 0) dL_count_9 o5008 (vp_inD (by decide +kernel)) (by decide +kernel) (fun h5009 w5010 f5011 => ?_)
  have w5012 : ob h5009 359 = some (.inl (1, 1, .inr (.inl (fun _ => 0)))) := by rw [w5010, uq_z (k := 0)]
  refine x_goto (M := M_L_count) (tgt := 17) dL_count_10 (by decide) ?_
  refine x_iconst (M := M_L_count) dL_count_17 ?_
  exact x_iret (M := M_L_count) dL_count_18 rfl ⟨rfl, (fr_tr f5011 (by decide) fr_rf), ⟨w5012, trivial⟩⟩ (Nat.le_of_ble_eq_true rfl) (Nat.le_of_ble_eq_true rfl)
set_option maxRecDepth 10000 in
theorem q5057 {l : Launch} {E : EE} (hl : l.stackTraces = false) {h : HP} {a1 : Int32} (c0 : ¬ (a1.toInt < 0)) (c1 : ¬ (5 < a1.toInt)) (c2 : ¬ (a1.toInt = 0)) (c3 : ¬ (a1.toInt = 1)) (c4 : ¬ (a1.toInt = 2)) (c5 : ¬ (a1.toInt = 3)) (c6 : a1.toInt = 4) : en_C l E M_X12_in 0 0 0 [.long (a1.toInt64), .long (Int64.ofInt 0), .long (Int64.ofInt 5)] h (pR (some (.int (Int32.ofInt 1))) h) := by
  refine en_mk m_X12_in rfl hl (Nat.le_of_ble_eq_true rfl) ?_
  refine x_lload_n (M := M_X12_in) dX12_in_0 rfl ?_
  refine x_lload_n (M := M_X12_in) dX12_in_1 rfl ?_
  refine x_lcmp (M := M_X12_in) dX12_in_2 ?_
  refine x_if_lt (M := M_X12_in) (tgt := 17) dX12_in_3 (by decide) (fun q => absurd ((bc_lt (i_i2l rfl) (by decide +kernel)).mp q) (by omega : ¬ (a1.toInt < 0))) (fun _ => ?_)
  refine x_lload_n (M := M_X12_in) dX12_in_6 rfl ?_
  refine x_lload (M := M_X12_in) dX12_in_7 rfl ?_
  refine x_lcmp (M := M_X12_in) dX12_in_9 ?_
  refine x_if_gt (M := M_X12_in) (tgt := 17) dX12_in_10 (by decide) (fun q => absurd ((bc_gt (i_i2l rfl) (by decide +kernel)).mp q) (by omega : ¬ (5 < a1.toInt))) (fun _ => ?_)
  refine x_iconst (M := M_X12_in) dX12_in_13 ?_
  refine x_goto (M := M_X12_in) (tgt := 18) dX12_in_14 (by decide) ?_
  exact x_zret (M := M_X12_in) dX12_in_18 rfl (by decide) ⟨rfl, rfl⟩ (Nat.le_of_ble_eq_true rfl) (Nat.le_of_ble_eq_true rfl)
set_option maxRecDepth 10000 in
theorem q5064 {l : Launch} {E : EE} (hl : l.stackTraces = false) {h : HP} {dg : Int32} (o5062 : ob h 277 = some (.inr (15, ((RB dg).set 0 (.int (Int32.ofInt 0)))))) (o5063 : ob h 280 = some (.inl (0, 33, .inl (fun _ => 0)))) : en_C l E M_X12_has 0 0 0 [.ref 277, .int (Int32.ofInt 0)] h (pR (some (.int (Int32.ofInt 0))) h) := by
  refine en_mk m_X12_has rfl hl (Nat.le_of_ble_eq_true rfl) ?_
  refine x_aload_n (M := M_X12_has) dX12_has_0 rfl ?_
  refine x_getf (M := M_X12_has) (ci := 15) (C := RX12) (T := TX12) (N := 135) (ty := tyX12) cl15 dX12_has_1 o5062 9 (by decide) t_2400 (v := .ref 280) rfl ?_
  refine x_iload_n (M := M_X12_has) dX12_has_4 rfl ?_
  refine x_iald (M := M_X12_has) dX12_has_5 o5063 (vp_inD (by decide +kernel)) ?_
  refine x_top (M := M_X12_has) (y := (Int32.ofInt 0)) (by decide +kernel) ?_
  refine x_if_le (M := M_X12_has) (tgt := 13) dX12_has_6 (by decide) (fun _ => ?_) (fun q => absurd q (by decide +kernel))
  refine x_iconst (M := M_X12_has) dX12_has_13 ?_
  exact x_zret (M := M_X12_has) dX12_has_14 rfl (by decide) ⟨rfl, rfl⟩ (Nat.le_of_ble_eq_true rfl) (Nat.le_of_ble_eq_true rfl)
set_option maxRecDepth 10000 in
theorem q5069 {l : Launch} {E : EE} (hl : l.stackTraces = false) {h : HP} {dg : Int32} (o5067 : ob h 277 = some (.inr (15, ((RB dg).set 0 (.int (Int32.ofInt 0)))))) (o5068 : ob h 280 = some (.inl (0, 33, .inl (fun _ => 0)))) : en_C l E M_X12_has 0 0 0 [.ref 277, .int (Int32.ofInt 1)] h (pR (some (.int (Int32.ofInt 0))) h) := by
  refine en_mk m_X12_has rfl hl (Nat.le_of_ble_eq_true rfl) ?_
  refine x_aload_n (M := M_X12_has) dX12_has_0 rfl ?_
  refine x_getf (M := M_X12_has) (ci := 15) (C := RX12) (T := TX12) (N := 135) (ty := tyX12) cl15 dX12_has_1 o5067 9 (by decide) t_2400 (v := .ref 280) rfl ?_
  refine x_iload_n (M := M_X12_has) dX12_has_4 rfl ?_
  refine x_iald (M := M_X12_has) dX12_has_5 o5068 (vp_inD (by decide +kernel)) ?_
  refine x_top (M := M_X12_has) (y := (Int32.ofInt 0)) (by decide +kernel) ?_
  refine x_if_le (M := M_X12_has) (tgt := 13) dX12_has_6 (by decide) (fun _ => ?_) (fun q => absurd q (by decide +kernel))
  refine x_iconst (M := M_X12_has) dX12_has_13 ?_
  exact x_zret (M := M_X12_has) dX12_has_14 rfl (by decide) ⟨rfl, rfl⟩ (Nat.le_of_ble_eq_true rfl) (Nat.le_of_ble_eq_true rfl)
set_option maxRecDepth 10000 in
theorem q5072 {l : Launch} {E : EE} (hl : l.stackTraces = false) {h : HP} {dg : Int32} (o5070 : ob h 277 = some (.inr (15, ((RB dg).set 0 (.int (Int32.ofInt 0)))))) (o5071 : ob h 280 = some (.inl (0, 33, .inl (fun _ => 0)))) : en_C l E M_X12_has 0 0 0 [.ref 277, .int (Int32.ofInt 2)] h (pR (some (.int (Int32.ofInt 0))) h) := by
  refine en_mk m_X12_has rfl hl (Nat.le_of_ble_eq_true rfl) ?_
  refine x_aload_n (M := M_X12_has) dX12_has_0 rfl ?_
  refine x_getf (M := M_X12_has) (ci := 15) (C := RX12) (T := TX12) (N := 135) (ty := tyX12) cl15 dX12_has_1 o5070 9 (by decide) t_2400 (v := .ref 280) rfl ?_
  refine x_iload_n (M := M_X12_has) dX12_has_4 rfl ?_
  refine x_iald (M := M_X12_has) dX12_has_5 o5071 (vp_inD (by decide +kernel)) ?_
  refine x_top (M := M_X12_has) (y := (Int32.ofInt 0)) (by decide +kernel) ?_
  refine x_if_le (M := M_X12_has) (tgt := 13) dX12_has_6 (by decide) (fun _ => ?_) (fun q => absurd q (by decide +kernel))
  refine x_iconst (M := M_X12_has) dX12_has_13 ?_
  exact x_zret (M := M_X12_has) dX12_has_14 rfl (by decide) ⟨rfl, rfl⟩ (Nat.le_of_ble_eq_true rfl) (Nat.le_of_ble_eq_true rfl)
set_option maxRecDepth 10000 in
theorem q5075 {l : Launch} {E : EE} (hl : l.stackTraces = false) {h : HP} {dg : Int32} (o5073 : ob h 277 = some (.inr (15, ((RB dg).set 0 (.int (Int32.ofInt 0)))))) (o5074 : ob h 280 = some (.inl (0, 33, .inl (fun _ => 0)))) : en_C l E M_X12_has 0 0 0 [.ref 277, .int (Int32.ofInt 3)] h (pR (some (.int (Int32.ofInt 0))) h) := by
  refine en_mk m_X12_has rfl hl (Nat.le_of_ble_eq_true rfl) ?_
  refine x_aload_n (M := M_X12_has) dX12_has_0 rfl ?_
  refine x_getf (M := M_X12_has) (ci := 15) (C := RX12) (T := TX12) (N := 135) (ty := tyX12) cl15 dX12_has_1 o5073 9 (by decide) t_2400 (v := .ref 280) rfl ?_
  refine x_iload_n (M := M_X12_has) dX12_has_4 rfl ?_
  refine x_iald (M := M_X12_has) dX12_has_5 o5074 (vp_inD (by decide +kernel)) ?_
  refine x_top (M := M_X12_has) (y := (Int32.ofInt 0)) (by decide +kernel) ?_
  refine x_if_le (M := M_X12_has) (tgt := 13) dX12_has_6 (by decide) (fun _ => ?_) (fun q => absurd q (by decide +kernel))
  refine x_iconst (M := M_X12_has) dX12_has_13 ?_
  exact x_zret (M := M_X12_has) dX12_has_14 rfl (by decide) ⟨rfl, rfl⟩ (Nat.le_of_ble_eq_true rfl) (Nat.le_of_ble_eq_true rfl)
set_option maxRecDepth 10000 in
theorem q5078 {l : Launch} {E : EE} (hl : l.stackTraces = false) {h : HP} {dg : Int32} (o5076 : ob h 277 = some (.inr (15, ((RB dg).set 0 (.int (Int32.ofInt 0)))))) (o5077 : ob h 280 = some (.inl (0, 33, .inl (fun _ => 0)))) : en_C l E M_X12_has 0 0 0 [.ref 277, .int (Int32.ofInt 4)] h (pR (some (.int (Int32.ofInt 0))) h) := by
  refine en_mk m_X12_has rfl hl (Nat.le_of_ble_eq_true rfl) ?_
  refine x_aload_n (M := M_X12_has) dX12_has_0 rfl ?_
  refine x_getf (M := M_X12_has) (ci := 15) (C := RX12) (T := TX12) (N := 135) (ty := tyX12) cl15 dX12_has_1 o5076 9 (by decide) t_2400 (v := .ref 280) rfl ?_
  refine x_iload_n (M := M_X12_has) dX12_has_4 rfl ?_
  refine x_iald (M := M_X12_has) dX12_has_5 o5077 (vp_inD (by decide +kernel)) ?_
  refine x_top (M := M_X12_has) (y := (Int32.ofInt 0)) (by decide +kernel) ?_
  refine x_if_le (M := M_X12_has) (tgt := 13) dX12_has_6 (by decide) (fun _ => ?_) (fun q => absurd q (by decide +kernel))
  refine x_iconst (M := M_X12_has) dX12_has_13 ?_
  exact x_zret (M := M_X12_has) dX12_has_14 rfl (by decide) ⟨rfl, rfl⟩ (Nat.le_of_ble_eq_true rfl) (Nat.le_of_ble_eq_true rfl)
set_option maxRecDepth 10000 in
theorem q5081 {l : Launch} {E : EE} (hl : l.stackTraces = false) {h : HP} {dg : Int32} (o5079 : ob h 277 = some (.inr (15, ((RB dg).set 0 (.int (Int32.ofInt 0)))))) (o5080 : ob h 280 = some (.inl (0, 33, .inl (fun _ => 0)))) : en_C l E M_X12_has 0 0 0 [.ref 277, .int (Int32.ofInt 5)] h (pR (some (.int (Int32.ofInt 0))) h) := by
  refine en_mk m_X12_has rfl hl (Nat.le_of_ble_eq_true rfl) ?_
  refine x_aload_n (M := M_X12_has) dX12_has_0 rfl ?_
  refine x_getf (M := M_X12_has) (ci := 15) (C := RX12) (T := TX12) (N := 135) (ty := tyX12) cl15 dX12_has_1 o5079 9 (by decide) t_2400 (v := .ref 280) rfl ?_
  refine x_iload_n (M := M_X12_has) dX12_has_4 rfl ?_
  refine x_iald (M := M_X12_has) dX12_has_5 o5080 (vp_inD (by decide +kernel)) ?_
  refine x_top (M := M_X12_has) (y := (Int32.ofInt 0)) (by decide +kernel) ?_
  refine x_if_le (M := M_X12_has) (tgt := 13) dX12_has_6 (by decide) (fun _ => ?_) (fun q => absurd q (by decide +kernel))
  refine x_iconst (M := M_X12_has) dX12_has_13 ?_
  exact x_zret (M := M_X12_has) dX12_has_14 rfl (by decide) ⟨rfl, rfl⟩ (Nat.le_of_ble_eq_true rfl) (Nat.le_of_ble_eq_true rfl)
set_option maxRecDepth 10000 in
theorem q5084 {l : Launch} {E : EE} (hl : l.stackTraces = false) {h : HP} {dg : Int32} (o5082 : ob h 277 = some (.inr (15, ((RB dg).set 0 (.int (Int32.ofInt 0)))))) (o5083 : ob h 280 = some (.inl (0, 33, .inl (fun _ => 0)))) : en_C l E M_X12_has 0 0 0 [.ref 277, .int (Int32.ofInt 6)] h (pR (some (.int (Int32.ofInt 0))) h) := by
  refine en_mk m_X12_has rfl hl (Nat.le_of_ble_eq_true rfl) ?_
  refine x_aload_n (M := M_X12_has) dX12_has_0 rfl ?_
  refine x_getf (M := M_X12_has) (ci := 15) (C := RX12) (T := TX12) (N := 135) (ty := tyX12) cl15 dX12_has_1 o5082 9 (by decide) t_2400 (v := .ref 280) rfl ?_
  refine x_iload_n (M := M_X12_has) dX12_has_4 rfl ?_
  refine x_iald (M := M_X12_has) dX12_has_5 o5083 (vp_inD (by decide +kernel)) ?_
  refine x_top (M := M_X12_has) (y := (Int32.ofInt 0)) (by decide +kernel) ?_
  refine x_if_le (M := M_X12_has) (tgt := 13) dX12_has_6 (by decide) (fun _ => ?_) (fun q => absurd q (by decide +kernel))
  refine x_iconst (M := M_X12_has) dX12_has_13 ?_
  exact x_zret (M := M_X12_has) dX12_has_14 rfl (by decide) ⟨rfl, rfl⟩ (Nat.le_of_ble_eq_true rfl) (Nat.le_of_ble_eq_true rfl)
set_option maxRecDepth 10000 in
theorem q5087 {l : Launch} {E : EE} (hl : l.stackTraces = false) {h : HP} {dg : Int32} (o5085 : ob h 277 = some (.inr (15, ((RB dg).set 0 (.int (Int32.ofInt 0)))))) (o5086 : ob h 280 = some (.inl (0, 33, .inl (fun _ => 0)))) : en_C l E M_X12_has 0 0 0 [.ref 277, .int (Int32.ofInt 7)] h (pR (some (.int (Int32.ofInt 0))) h) := by
  refine en_mk m_X12_has rfl hl (Nat.le_of_ble_eq_true rfl) ?_
  refine x_aload_n (M := M_X12_has) dX12_has_0 rfl ?_
  refine x_getf (M := M_X12_has) (ci := 15) (C := RX12) (T := TX12) (N := 135) (ty := tyX12) cl15 dX12_has_1 o5085 9 (by decide) t_2400 (v := .ref 280) rfl ?_
  refine x_iload_n (M := M_X12_has) dX12_has_4 rfl ?_
  refine x_iald (M := M_X12_has) dX12_has_5 o5086 (vp_inD (by decide +kernel)) ?_
  refine x_top (M := M_X12_has) (y := (Int32.ofInt 0)) (by decide +kernel) ?_
  refine x_if_le (M := M_X12_has) (tgt := 13) dX12_has_6 (by decide) (fun _ => ?_) (fun q => absurd q (by decide +kernel))
  refine x_iconst (M := M_X12_has) dX12_has_13 ?_
  exact x_zret (M := M_X12_has) dX12_has_14 rfl (by decide) ⟨rfl, rfl⟩ (Nat.le_of_ble_eq_true rfl) (Nat.le_of_ble_eq_true rfl)
set_option maxRecDepth 10000 in
theorem q5090 {l : Launch} {E : EE} (hl : l.stackTraces = false) {h : HP} {dg : Int32} (o5088 : ob h 277 = some (.inr (15, ((RB dg).set 0 (.int (Int32.ofInt 0)))))) (o5089 : ob h 280 = some (.inl (0, 33, .inl (fun _ => 0)))) : en_C l E M_X12_has 0 0 0 [.ref 277, .int (Int32.ofInt 8)] h (pR (some (.int (Int32.ofInt 0))) h) := by
  refine en_mk m_X12_has rfl hl (Nat.le_of_ble_eq_true rfl) ?_
  refine x_aload_n (M := M_X12_has) dX12_has_0 rfl ?_
  refine x_getf (M := M_X12_has) (ci := 15) (C := RX12) (T := TX12) (N := 135) (ty := tyX12) cl15 dX12_has_1 o5088 9 (by decide) t_2400 (v := .ref 280) rfl ?_
  refine x_iload_n (M := M_X12_has) dX12_has_4 rfl ?_
  refine x_iald (M := M_X12_has) dX12_has_5 o5089 (vp_inD (by decide +kernel)) ?_
  refine x_top (M := M_X12_has) (y := (Int32.ofInt 0)) (by decide +kernel) ?_
  refine x_if_le (M := M_X12_has) (tgt := 13) dX12_has_6 (by decide) (fun _ => ?_) (fun q => absurd q (by decide +kernel))
  refine x_iconst (M := M_X12_has) dX12_has_13 ?_
  exact x_zret (M := M_X12_has) dX12_has_14 rfl (by decide) ⟨rfl, rfl⟩ (Nat.le_of_ble_eq_true rfl) (Nat.le_of_ble_eq_true rfl)
set_option maxRecDepth 10000 in
theorem q5093 {l : Launch} {E : EE} (hl : l.stackTraces = false) {h : HP} {dg : Int32} (o5091 : ob h 277 = some (.inr (15, ((RB dg).set 0 (.int (Int32.ofInt 0)))))) (o5092 : ob h 280 = some (.inl (0, 33, .inl (fun _ => 0)))) : en_C l E M_X12_has 0 0 0 [.ref 277, .int (Int32.ofInt 9)] h (pR (some (.int (Int32.ofInt 0))) h) := by
  refine en_mk m_X12_has rfl hl (Nat.le_of_ble_eq_true rfl) ?_
  refine x_aload_n (M := M_X12_has) dX12_has_0 rfl ?_
  refine x_getf (M := M_X12_has) (ci := 15) (C := RX12) (T := TX12) (N := 135) (ty := tyX12) cl15 dX12_has_1 o5091 9 (by decide) t_2400 (v := .ref 280) rfl ?_
  refine x_iload_n (M := M_X12_has) dX12_has_4 rfl ?_
  refine x_iald (M := M_X12_has) dX12_has_5 o5092 (vp_inD (by decide +kernel)) ?_
  refine x_top (M := M_X12_has) (y := (Int32.ofInt 0)) (by decide +kernel) ?_
  refine x_if_le (M := M_X12_has) (tgt := 13) dX12_has_6 (by decide) (fun _ => ?_) (fun q => absurd q (by decide +kernel))
  refine x_iconst (M := M_X12_has) dX12_has_13 ?_
  exact x_zret (M := M_X12_has) dX12_has_14 rfl (by decide) ⟨rfl, rfl⟩ (Nat.le_of_ble_eq_true rfl) (Nat.le_of_ble_eq_true rfl)
set_option maxRecDepth 10000 in
theorem q5096 {l : Launch} {E : EE} (hl : l.stackTraces = false) {h : HP} {dg : Int32} (o5094 : ob h 277 = some (.inr (15, ((RB dg).set 0 (.int (Int32.ofInt 0)))))) (o5095 : ob h 280 = some (.inl (0, 33, .inl (fun _ => 0)))) : en_C l E M_X12_has 0 0 0 [.ref 277, .int (Int32.ofInt 10)] h (pR (some (.int (Int32.ofInt 0))) h) := by
  refine en_mk m_X12_has rfl hl (Nat.le_of_ble_eq_true rfl) ?_
  refine x_aload_n (M := M_X12_has) dX12_has_0 rfl ?_
  refine x_getf (M := M_X12_has) (ci := 15) (C := RX12) (T := TX12) (N := 135) (ty := tyX12) cl15 dX12_has_1 o5094 9 (by decide) t_2400 (v := .ref 280) rfl ?_
  refine x_iload_n (M := M_X12_has) dX12_has_4 rfl ?_
  refine x_iald (M := M_X12_has) dX12_has_5 o5095 (vp_inD (by decide +kernel)) ?_
  refine x_top (M := M_X12_has) (y := (Int32.ofInt 0)) (by decide +kernel) ?_
  refine x_if_le (M := M_X12_has) (tgt := 13) dX12_has_6 (by decide) (fun _ => ?_) (fun q => absurd q (by decide +kernel))
  refine x_iconst (M := M_X12_has) dX12_has_13 ?_
  exact x_zret (M := M_X12_has) dX12_has_14 rfl (by decide) ⟨rfl, rfl⟩ (Nat.le_of_ble_eq_true rfl) (Nat.le_of_ble_eq_true rfl)
set_option maxRecDepth 10000 in
theorem q5099 {l : Launch} {E : EE} (hl : l.stackTraces = false) {h : HP} {dg : Int32} (o5097 : ob h 277 = some (.inr (15, ((RB dg).set 0 (.int (Int32.ofInt 0)))))) (o5098 : ob h 280 = some (.inl (0, 33, .inl (fun _ => 0)))) : en_C l E M_X12_has 0 0 0 [.ref 277, .int (Int32.ofInt 11)] h (pR (some (.int (Int32.ofInt 0))) h) := by
  refine en_mk m_X12_has rfl hl (Nat.le_of_ble_eq_true rfl) ?_
  refine x_aload_n (M := M_X12_has) dX12_has_0 rfl ?_
  refine x_getf (M := M_X12_has) (ci := 15) (C := RX12) (T := TX12) (N := 135) (ty := tyX12) cl15 dX12_has_1 o5097 9 (by decide) t_2400 (v := .ref 280) rfl ?_
  refine x_iload_n (M := M_X12_has) dX12_has_4 rfl ?_
  refine x_iald (M := M_X12_has) dX12_has_5 o5098 (vp_inD (by decide +kernel)) ?_
  refine x_top (M := M_X12_has) (y := (Int32.ofInt 0)) (by decide +kernel) ?_
  refine x_if_le (M := M_X12_has) (tgt := 13) dX12_has_6 (by decide) (fun _ => ?_) (fun q => absurd q (by decide +kernel))
  refine x_iconst (M := M_X12_has) dX12_has_13 ?_
  exact x_zret (M := M_X12_has) dX12_has_14 rfl (by decide) ⟨rfl, rfl⟩ (Nat.le_of_ble_eq_true rfl) (Nat.le_of_ble_eq_true rfl)
set_option maxRecDepth 10000 in
theorem q5102 {l : Launch} {E : EE} (hl : l.stackTraces = false) {h : HP} {dg : Int32} (o5100 : ob h 277 = some (.inr (15, ((RB dg).set 0 (.int (Int32.ofInt 0)))))) (o5101 : ob h 280 = some (.inl (0, 33, .inl (fun _ => 0)))) : en_C l E M_X12_has 0 0 0 [.ref 277, .int (Int32.ofInt 12)] h (pR (some (.int (Int32.ofInt 0))) h) := by
  refine en_mk m_X12_has rfl hl (Nat.le_of_ble_eq_true rfl) ?_
  refine x_aload_n (M := M_X12_has) dX12_has_0 rfl ?_
  refine x_getf (M := M_X12_has) (ci := 15) (C := RX12) (T := TX12) (N := 135) (ty := tyX12) cl15 dX12_has_1 o5100 9 (by decide) t_2400 (v := .ref 280) rfl ?_
  refine x_iload_n (M := M_X12_has) dX12_has_4 rfl ?_
  refine x_iald (M := M_X12_has) dX12_has_5 o5101 (vp_inD (by decide +kernel)) ?_
  refine x_top (M := M_X12_has) (y := (Int32.ofInt 0)) (by decide +kernel) ?_
  refine x_if_le (M := M_X12_has) (tgt := 13) dX12_has_6 (by decide) (fun _ => ?_) (fun q => absurd q (by decide +kernel))
  refine x_iconst (M := M_X12_has) dX12_has_13 ?_
  exact x_zret (M := M_X12_has) dX12_has_14 rfl (by decide) ⟨rfl, rfl⟩ (Nat.le_of_ble_eq_true rfl) (Nat.le_of_ble_eq_true rfl)
set_option maxRecDepth 10000 in
theorem q5105 {l : Launch} {E : EE} (hl : l.stackTraces = false) {h : HP} {dg : Int32} (o5103 : ob h 277 = some (.inr (15, ((RB dg).set 0 (.int (Int32.ofInt 0)))))) (o5104 : ob h 280 = some (.inl (0, 33, .inl (fun _ => 0)))) : en_C l E M_X12_has 0 0 0 [.ref 277, .int (Int32.ofInt 13)] h (pR (some (.int (Int32.ofInt 0))) h) := by
  refine en_mk m_X12_has rfl hl (Nat.le_of_ble_eq_true rfl) ?_
  refine x_aload_n (M := M_X12_has) dX12_has_0 rfl ?_
  refine x_getf (M := M_X12_has) (ci := 15) (C := RX12) (T := TX12) (N := 135) (ty := tyX12) cl15 dX12_has_1 o5103 9 (by decide) t_2400 (v := .ref 280) rfl ?_
  refine x_iload_n (M := M_X12_has) dX12_has_4 rfl ?_
  refine x_iald (M := M_X12_has) dX12_has_5 o5104 (vp_inD (by decide +kernel)) ?_
  refine x_top (M := M_X12_has) (y := (Int32.ofInt 0)) (by decide +kernel) ?_
  refine x_if_le (M := M_X12_has) (tgt := 13) dX12_has_6 (by decide) (fun _ => ?_) (fun q => absurd q (by decide +kernel))
  refine x_iconst (M := M_X12_has) dX12_has_13 ?_
  exact x_zret (M := M_X12_has) dX12_has_14 rfl (by decide) ⟨rfl, rfl⟩ (Nat.le_of_ble_eq_true rfl) (Nat.le_of_ble_eq_true rfl)
set_option maxRecDepth 10000 in
theorem q5108 {l : Launch} {E : EE} (hl : l.stackTraces = false) {h : HP} {dg : Int32} (o5106 : ob h 277 = some (.inr (15, ((RB dg).set 0 (.int (Int32.ofInt 0)))))) (o5107 : ob h 280 = some (.inl (0, 33, .inl (fun _ => 0)))) : en_C l E M_X12_has 0 0 0 [.ref 277, .int (Int32.ofInt 14)] h (pR (some (.int (Int32.ofInt 0))) h) := by
  refine en_mk m_X12_has rfl hl (Nat.le_of_ble_eq_true rfl) ?_
  refine x_aload_n (M := M_X12_has) dX12_has_0 rfl ?_
  refine x_getf (M := M_X12_has) (ci := 15) (C := RX12) (T := TX12) (N := 135) (ty := tyX12) cl15 dX12_has_1 o5106 9 (by decide) t_2400 (v := .ref 280) rfl ?_
  refine x_iload_n (M := M_X12_has) dX12_has_4 rfl ?_
  refine x_iald (M := M_X12_has) dX12_has_5 o5107 (vp_inD (by decide +kernel)) ?_
  refine x_top (M := M_X12_has) (y := (Int32.ofInt 0)) (by decide +kernel) ?_
  refine x_if_le (M := M_X12_has) (tgt := 13) dX12_has_6 (by decide) (fun _ => ?_) (fun q => absurd q (by decide +kernel))
  refine x_iconst (M := M_X12_has) dX12_has_13 ?_
  exact x_zret (M := M_X12_has) dX12_has_14 rfl (by decide) ⟨rfl, rfl⟩ (Nat.le_of_ble_eq_true rfl) (Nat.le_of_ble_eq_true rfl)
set_option maxRecDepth 10000 in
theorem q5111 {l : Launch} {E : EE} (hl : l.stackTraces = false) {h : HP} {dg : Int32} (o5109 : ob h 277 = some (.inr (15, ((RB dg).set 0 (.int (Int32.ofInt 0)))))) (o5110 : ob h 280 = some (.inl (0, 33, .inl (fun _ => 0)))) : en_C l E M_X12_has 0 0 0 [.ref 277, .int (Int32.ofInt 15)] h (pR (some (.int (Int32.ofInt 0))) h) := by
  refine en_mk m_X12_has rfl hl (Nat.le_of_ble_eq_true rfl) ?_
  refine x_aload_n (M := M_X12_has) dX12_has_0 rfl ?_
  refine x_getf (M := M_X12_has) (ci := 15) (C := RX12) (T := TX12) (N := 135) (ty := tyX12) cl15 dX12_has_1 o5109 9 (by decide) t_2400 (v := .ref 280) rfl ?_
  refine x_iload_n (M := M_X12_has) dX12_has_4 rfl ?_
  refine x_iald (M := M_X12_has) dX12_has_5 o5110 (vp_inD (by decide +kernel)) ?_
  refine x_top (M := M_X12_has) (y := (Int32.ofInt 0)) (by decide +kernel) ?_
  refine x_if_le (M := M_X12_has) (tgt := 13) dX12_has_6 (by decide) (fun _ => ?_) (fun q => absurd q (by decide +kernel))
  refine x_iconst (M := M_X12_has) dX12_has_13 ?_
  exact x_zret (M := M_X12_has) dX12_has_14 rfl (by decide) ⟨rfl, rfl⟩ (Nat.le_of_ble_eq_true rfl) (Nat.le_of_ble_eq_true rfl)
set_option maxRecDepth 10000 in
theorem q5114 {l : Launch} {E : EE} (hl : l.stackTraces = false) {h : HP} {dg : Int32} (o5112 : ob h 277 = some (.inr (15, ((RB dg).set 0 (.int (Int32.ofInt 0)))))) (o5113 : ob h 280 = some (.inl (0, 33, .inl (fun _ => 0)))) : en_C l E M_X12_has 0 0 0 [.ref 277, .int (Int32.ofInt 16)] h (pR (some (.int (Int32.ofInt 0))) h) := by
  refine en_mk m_X12_has rfl hl (Nat.le_of_ble_eq_true rfl) ?_
  refine x_aload_n (M := M_X12_has) dX12_has_0 rfl ?_
  refine x_getf (M := M_X12_has) (ci := 15) (C := RX12) (T := TX12) (N := 135) (ty := tyX12) cl15 dX12_has_1 o5112 9 (by decide) t_2400 (v := .ref 280) rfl ?_
  refine x_iload_n (M := M_X12_has) dX12_has_4 rfl ?_
  refine x_iald (M := M_X12_has) dX12_has_5 o5113 (vp_inD (by decide +kernel)) ?_
  refine x_top (M := M_X12_has) (y := (Int32.ofInt 0)) (by decide +kernel) ?_
  refine x_if_le (M := M_X12_has) (tgt := 13) dX12_has_6 (by decide) (fun _ => ?_) (fun q => absurd q (by decide +kernel))
  refine x_iconst (M := M_X12_has) dX12_has_13 ?_
  exact x_zret (M := M_X12_has) dX12_has_14 rfl (by decide) ⟨rfl, rfl⟩ (Nat.le_of_ble_eq_true rfl) (Nat.le_of_ble_eq_true rfl)
set_option maxRecDepth 10000 in
theorem q5117 {l : Launch} {E : EE} (hl : l.stackTraces = false) {h : HP} {dg : Int32} (o5115 : ob h 277 = some (.inr (15, ((RB dg).set 0 (.int (Int32.ofInt 0)))))) (o5116 : ob h 280 = some (.inl (0, 33, .inl (fun _ => 0)))) : en_C l E M_X12_has 0 0 0 [.ref 277, .int (Int32.ofInt 17)] h (pR (some (.int (Int32.ofInt 0))) h) := by
  refine en_mk m_X12_has rfl hl (Nat.le_of_ble_eq_true rfl) ?_
  refine x_aload_n (M := M_X12_has) dX12_has_0 rfl ?_
  refine x_getf (M := M_X12_has) (ci := 15) (C := RX12) (T := TX12) (N := 135) (ty := tyX12) cl15 dX12_has_1 o5115 9 (by decide) t_2400 (v := .ref 280) rfl ?_
  refine x_iload_n (M := M_X12_has) dX12_has_4 rfl ?_
  refine x_iald (M := M_X12_has) dX12_has_5 o5116 (vp_inD (by decide +kernel)) ?_
  refine x_top (M := M_X12_has) (y := (Int32.ofInt 0)) (by decide +kernel) ?_
  refine x_if_le (M := M_X12_has) (tgt := 13) dX12_has_6 (by decide) (fun _ => ?_) (fun q => absurd q (by decide +kernel))
  refine x_iconst (M := M_X12_has) dX12_has_13 ?_
  exact x_zret (M := M_X12_has) dX12_has_14 rfl (by decide) ⟨rfl, rfl⟩ (Nat.le_of_ble_eq_true rfl) (Nat.le_of_ble_eq_true rfl)
set_option maxRecDepth 10000 in
theorem q5120 {l : Launch} {E : EE} (hl : l.stackTraces = false) {h : HP} {dg : Int32} (o5118 : ob h 277 = some (.inr (15, ((RB dg).set 0 (.int (Int32.ofInt 0)))))) (o5119 : ob h 280 = some (.inl (0, 33, .inl (fun _ => 0)))) : en_C l E M_X12_has 0 0 0 [.ref 277, .int (Int32.ofInt 18)] h (pR (some (.int (Int32.ofInt 0))) h) := by
  refine en_mk m_X12_has rfl hl (Nat.le_of_ble_eq_true rfl) ?_
  refine x_aload_n (M := M_X12_has) dX12_has_0 rfl ?_
  refine x_getf (M := M_X12_has) (ci := 15) (C := RX12) (T := TX12) (N := 135) (ty := tyX12) cl15 dX12_has_1 o5118 9 (by decide) t_2400 (v := .ref 280) rfl ?_
  refine x_iload_n (M := M_X12_has) dX12_has_4 rfl ?_
  refine x_iald (M := M_X12_has) dX12_has_5 o5119 (vp_inD (by decide +kernel)) ?_
  refine x_top (M := M_X12_has) (y := (Int32.ofInt 0)) (by decide +kernel) ?_
  refine x_if_le (M := M_X12_has) (tgt := 13) dX12_has_6 (by decide) (fun _ => ?_) (fun q => absurd q (by decide +kernel))
  refine x_iconst (M := M_X12_has) dX12_has_13 ?_
  exact x_zret (M := M_X12_has) dX12_has_14 rfl (by decide) ⟨rfl, rfl⟩ (Nat.le_of_ble_eq_true rfl) (Nat.le_of_ble_eq_true rfl)
set_option maxRecDepth 10000 in
theorem q5123 {l : Launch} {E : EE} (hl : l.stackTraces = false) {h : HP} {dg : Int32} (o5121 : ob h 277 = some (.inr (15, ((RB dg).set 0 (.int (Int32.ofInt 0)))))) (o5122 : ob h 280 = some (.inl (0, 33, .inl (fun _ => 0)))) : en_C l E M_X12_has 0 0 0 [.ref 277, .int (Int32.ofInt 19)] h (pR (some (.int (Int32.ofInt 0))) h) := by
  refine en_mk m_X12_has rfl hl (Nat.le_of_ble_eq_true rfl) ?_
  refine x_aload_n (M := M_X12_has) dX12_has_0 rfl ?_
  refine x_getf (M := M_X12_has) (ci := 15) (C := RX12) (T := TX12) (N := 135) (ty := tyX12) cl15 dX12_has_1 o5121 9 (by decide) t_2400 (v := .ref 280) rfl ?_
  refine x_iload_n (M := M_X12_has) dX12_has_4 rfl ?_
  refine x_iald (M := M_X12_has) dX12_has_5 o5122 (vp_inD (by decide +kernel)) ?_
  refine x_top (M := M_X12_has) (y := (Int32.ofInt 0)) (by decide +kernel) ?_
  refine x_if_le (M := M_X12_has) (tgt := 13) dX12_has_6 (by decide) (fun _ => ?_) (fun q => absurd q (by decide +kernel))
  refine x_iconst (M := M_X12_has) dX12_has_13 ?_
  exact x_zret (M := M_X12_has) dX12_has_14 rfl (by decide) ⟨rfl, rfl⟩ (Nat.le_of_ble_eq_true rfl) (Nat.le_of_ble_eq_true rfl)
set_option maxRecDepth 10000 in
theorem q5126 {l : Launch} {E : EE} (hl : l.stackTraces = false) {h : HP} {dg : Int32} (o5124 : ob h 277 = some (.inr (15, ((RB dg).set 0 (.int (Int32.ofInt 0)))))) (o5125 : ob h 280 = some (.inl (0, 33, .inl (fun _ => 0)))) : en_C l E M_X12_has 0 0 0 [.ref 277, .int (Int32.ofInt 20)] h (pR (some (.int (Int32.ofInt 0))) h) := by
  refine en_mk m_X12_has rfl hl (Nat.le_of_ble_eq_true rfl) ?_
  refine x_aload_n (M := M_X12_has) dX12_has_0 rfl ?_
  refine x_getf (M := M_X12_has) (ci := 15) (C := RX12) (T := TX12) (N := 135) (ty := tyX12) cl15 dX12_has_1 o5124 9 (by decide) t_2400 (v := .ref 280) rfl ?_
  refine x_iload_n (M := M_X12_has) dX12_has_4 rfl ?_
  refine x_iald (M := M_X12_has) dX12_has_5 o5125 (vp_inD (by decide +kernel)) ?_
  refine x_top (M := M_X12_has) (y := (Int32.ofInt 0)) (by decide +kernel) ?_
  refine x_if_le (M := M_X12_has) (tgt := 13) dX12_has_6 (by decide) (fun _ => ?_) (fun q => absurd q (by decide +kernel))
  refine x_iconst (M := M_X12_has) dX12_has_13 ?_
  exact x_zret (M := M_X12_has) dX12_has_14 rfl (by decide) ⟨rfl, rfl⟩ (Nat.le_of_ble_eq_true rfl) (Nat.le_of_ble_eq_true rfl)
set_option maxRecDepth 10000 in
theorem q5129 {l : Launch} {E : EE} (hl : l.stackTraces = false) {h : HP} {dg : Int32} (o5127 : ob h 277 = some (.inr (15, ((RB dg).set 0 (.int (Int32.ofInt 0)))))) (o5128 : ob h 280 = some (.inl (0, 33, .inl (fun _ => 0)))) : en_C l E M_X12_has 0 0 0 [.ref 277, .int (Int32.ofInt 21)] h (pR (some (.int (Int32.ofInt 0))) h) := by
  refine en_mk m_X12_has rfl hl (Nat.le_of_ble_eq_true rfl) ?_
  refine x_aload_n (M := M_X12_has) dX12_has_0 rfl ?_
  refine x_getf (M := M_X12_has) (ci := 15) (C := RX12) (T := TX12) (N := 135) (ty := tyX12) cl15 dX12_has_1 o5127 9 (by decide) t_2400 (v := .ref 280) rfl ?_
  refine x_iload_n (M := M_X12_has) dX12_has_4 rfl ?_
  refine x_iald (M := M_X12_has) dX12_has_5 o5128 (vp_inD (by decide +kernel)) ?_
  refine x_top (M := M_X12_has) (y := (Int32.ofInt 0)) (by decide +kernel) ?_
  refine x_if_le (M := M_X12_has) (tgt := 13) dX12_has_6 (by decide) (fun _ => ?_) (fun q => absurd q (by decide +kernel))
  refine x_iconst (M := M_X12_has) dX12_has_13 ?_
  exact x_zret (M := M_X12_has) dX12_has_14 rfl (by decide) ⟨rfl, rfl⟩ (Nat.le_of_ble_eq_true rfl) (Nat.le_of_ble_eq_true rfl)
set_option maxRecDepth 10000 in
theorem q5132 {l : Launch} {E : EE} (hl : l.stackTraces = false) {h : HP} {dg : Int32} (o5130 : ob h 277 = some (.inr (15, ((RB dg).set 0 (.int (Int32.ofInt 0)))))) (o5131 : ob h 280 = some (.inl (0, 33, .inl (fun _ => 0)))) : en_C l E M_X12_has 0 0 0 [.ref 277, .int (Int32.ofInt 22)] h (pR (some (.int (Int32.ofInt 0))) h) := by
  refine en_mk m_X12_has rfl hl (Nat.le_of_ble_eq_true rfl) ?_
  refine x_aload_n (M := M_X12_has) dX12_has_0 rfl ?_
  refine x_getf (M := M_X12_has) (ci := 15) (C := RX12) (T := TX12) (N := 135) (ty := tyX12) cl15 dX12_has_1 o5130 9 (by decide) t_2400 (v := .ref 280) rfl ?_
  refine x_iload_n (M := M_X12_has) dX12_has_4 rfl ?_
  refine x_iald (M := M_X12_has) dX12_has_5 o5131 (vp_inD (by decide +kernel)) ?_
  refine x_top (M := M_X12_has) (y := (Int32.ofInt 0)) (by decide +kernel) ?_
  refine x_if_le (M := M_X12_has) (tgt := 13) dX12_has_6 (by decide) (fun _ => ?_) (fun q => absurd q (by decide +kernel))
  refine x_iconst (M := M_X12_has) dX12_has_13 ?_
  exact x_zret (M := M_X12_has) dX12_has_14 rfl (by decide) ⟨rfl, rfl⟩ (Nat.le_of_ble_eq_true rfl) (Nat.le_of_ble_eq_true rfl)
set_option maxRecDepth 10000 in
theorem q5135 {l : Launch} {E : EE} (hl : l.stackTraces = false) {h : HP} {dg : Int32} (o5133 : ob h 277 = some (.inr (15, ((RB dg).set 0 (.int (Int32.ofInt 0)))))) (o5134 : ob h 280 = some (.inl (0, 33, .inl (fun _ => 0)))) : en_C l E M_X12_has 0 0 0 [.ref 277, .int (Int32.ofInt 23)] h (pR (some (.int (Int32.ofInt 0))) h) := by
  refine en_mk m_X12_has rfl hl (Nat.le_of_ble_eq_true rfl) ?_
  refine x_aload_n (M := M_X12_has) dX12_has_0 rfl ?_
  refine x_getf (M := M_X12_has) (ci := 15) (C := RX12) (T := TX12) (N := 135) (ty := tyX12) cl15 dX12_has_1 o5133 9 (by decide) t_2400 (v := .ref 280) rfl ?_
  refine x_iload_n (M := M_X12_has) dX12_has_4 rfl ?_
  refine x_iald (M := M_X12_has) dX12_has_5 o5134 (vp_inD (by decide +kernel)) ?_
  refine x_top (M := M_X12_has) (y := (Int32.ofInt 0)) (by decide +kernel) ?_
  refine x_if_le (M := M_X12_has) (tgt := 13) dX12_has_6 (by decide) (fun _ => ?_) (fun q => absurd q (by decide +kernel))
  refine x_iconst (M := M_X12_has) dX12_has_13 ?_
  exact x_zret (M := M_X12_has) dX12_has_14 rfl (by decide) ⟨rfl, rfl⟩ (Nat.le_of_ble_eq_true rfl) (Nat.le_of_ble_eq_true rfl)
set_option maxRecDepth 10000 in
theorem q5138 {l : Launch} {E : EE} (hl : l.stackTraces = false) {h : HP} {dg : Int32} (o5136 : ob h 277 = some (.inr (15, ((RB dg).set 0 (.int (Int32.ofInt 0)))))) (o5137 : ob h 280 = some (.inl (0, 33, .inl (fun _ => 0)))) : en_C l E M_X12_has 0 0 0 [.ref 277, .int (Int32.ofInt 24)] h (pR (some (.int (Int32.ofInt 0))) h) := by
  refine en_mk m_X12_has rfl hl (Nat.le_of_ble_eq_true rfl) ?_
  refine x_aload_n (M := M_X12_has) dX12_has_0 rfl ?_
  refine x_getf (M := M_X12_has) (ci := 15) (C := RX12) (T := TX12) (N := 135) (ty := tyX12) cl15 dX12_has_1 o5136 9 (by decide) t_2400 (v := .ref 280) rfl ?_
  refine x_iload_n (M := M_X12_has) dX12_has_4 rfl ?_
  refine x_iald (M := M_X12_has) dX12_has_5 o5137 (vp_inD (by decide +kernel)) ?_
  refine x_top (M := M_X12_has) (y := (Int32.ofInt 0)) (by decide +kernel) ?_
  refine x_if_le (M := M_X12_has) (tgt := 13) dX12_has_6 (by decide) (fun _ => ?_) (fun q => absurd q (by decide +kernel))
  refine x_iconst (M := M_X12_has) dX12_has_13 ?_
  exact x_zret (M := M_X12_has) dX12_has_14 rfl (by decide) ⟨rfl, rfl⟩ (Nat.le_of_ble_eq_true rfl) (Nat.le_of_ble_eq_true rfl)
set_option maxRecDepth 10000 in
theorem q5141 {l : Launch} {E : EE} (hl : l.stackTraces = false) {h : HP} {dg : Int32} (o5139 : ob h 277 = some (.inr (15, ((RB dg).set 0 (.int (Int32.ofInt 0)))))) (o5140 : ob h 280 = some (.inl (0, 33, .inl (fun _ => 0)))) : en_C l E M_X12_has 0 0 0 [.ref 277, .int (Int32.ofInt 25)] h (pR (some (.int (Int32.ofInt 0))) h) := by
  refine en_mk m_X12_has rfl hl (Nat.le_of_ble_eq_true rfl) ?_
  refine x_aload_n (M := M_X12_has) dX12_has_0 rfl ?_
  refine x_getf (M := M_X12_has) (ci := 15) (C := RX12) (T := TX12) (N := 135) (ty := tyX12) cl15 dX12_has_1 o5139 9 (by decide) t_2400 (v := .ref 280) rfl ?_
  refine x_iload_n (M := M_X12_has) dX12_has_4 rfl ?_
  refine x_iald (M := M_X12_has) dX12_has_5 o5140 (vp_inD (by decide +kernel)) ?_
  refine x_top (M := M_X12_has) (y := (Int32.ofInt 0)) (by decide +kernel) ?_
  refine x_if_le (M := M_X12_has) (tgt := 13) dX12_has_6 (by decide) (fun _ => ?_) (fun q => absurd q (by decide +kernel))
  refine x_iconst (M := M_X12_has) dX12_has_13 ?_
  exact x_zret (M := M_X12_has) dX12_has_14 rfl (by decide) ⟨rfl, rfl⟩ (Nat.le_of_ble_eq_true rfl) (Nat.le_of_ble_eq_true rfl)
set_option maxRecDepth 10000 in
theorem q5144 {l : Launch} {E : EE} (hl : l.stackTraces = false) {h : HP} {dg : Int32} (o5142 : ob h 277 = some (.inr (15, ((RB dg).set 0 (.int (Int32.ofInt 0)))))) (o5143 : ob h 280 = some (.inl (0, 33, .inl (fun _ => 0)))) : en_C l E M_X12_has 0 0 0 [.ref 277, .int (Int32.ofInt 26)] h (pR (some (.int (Int32.ofInt 0))) h) := by
  refine en_mk m_X12_has rfl hl (Nat.le_of_ble_eq_true rfl) ?_
  refine x_aload_n (M := M_X12_has) dX12_has_0 rfl ?_
  refine x_getf (M := M_X12_has) (ci := 15) (C := RX12) (T := TX12) (N := 135) (ty := tyX12) cl15 dX12_has_1 o5142 9 (by decide) t_2400 (v := .ref 280) rfl ?_
  refine x_iload_n (M := M_X12_has) dX12_has_4 rfl ?_
  refine x_iald (M := M_X12_has) dX12_has_5 o5143 (vp_inD (by decide +kernel)) ?_
  refine x_top (M := M_X12_has) (y := (Int32.ofInt 0)) (by decide +kernel) ?_
  refine x_if_le (M := M_X12_has) (tgt := 13) dX12_has_6 (by decide) (fun _ => ?_) (fun q => absurd q (by decide +kernel))
  refine x_iconst (M := M_X12_has) dX12_has_13 ?_
  exact x_zret (M := M_X12_has) dX12_has_14 rfl (by decide) ⟨rfl, rfl⟩ (Nat.le_of_ble_eq_true rfl) (Nat.le_of_ble_eq_true rfl)
set_option maxRecDepth 10000 in
theorem q5147 {l : Launch} {E : EE} (hl : l.stackTraces = false) {h : HP} {dg : Int32} (o5145 : ob h 277 = some (.inr (15, ((RB dg).set 0 (.int (Int32.ofInt 0)))))) (o5146 : ob h 280 = some (.inl (0, 33, .inl (fun _ => 0)))) : en_C l E M_X12_has 0 0 0 [.ref 277, .int (Int32.ofInt 27)] h (pR (some (.int (Int32.ofInt 0))) h) := by
  refine en_mk m_X12_has rfl hl (Nat.le_of_ble_eq_true rfl) ?_
  refine x_aload_n (M := M_X12_has) dX12_has_0 rfl ?_
  refine x_getf (M := M_X12_has) (ci := 15) (C := RX12) (T := TX12) (N := 135) (ty := tyX12) cl15 dX12_has_1 o5145 9 (by decide) t_2400 (v := .ref 280) rfl ?_
  refine x_iload_n (M := M_X12_has) dX12_has_4 rfl ?_
  refine x_iald (M := M_X12_has) dX12_has_5 o5146 (vp_inD (by decide +kernel)) ?_
  refine x_top (M := M_X12_has) (y := (Int32.ofInt 0)) (by decide +kernel) ?_
  refine x_if_le (M := M_X12_has) (tgt := 13) dX12_has_6 (by decide) (fun _ => ?_) (fun q => absurd q (by decide +kernel))
  refine x_iconst (M := M_X12_has) dX12_has_13 ?_
  exact x_zret (M := M_X12_has) dX12_has_14 rfl (by decide) ⟨rfl, rfl⟩ (Nat.le_of_ble_eq_true rfl) (Nat.le_of_ble_eq_true rfl)
set_option maxRecDepth 10000 in
theorem q5150 {l : Launch} {E : EE} (hl : l.stackTraces = false) {h : HP} {dg : Int32} (o5148 : ob h 277 = some (.inr (15, ((RB dg).set 0 (.int (Int32.ofInt 0)))))) (o5149 : ob h 280 = some (.inl (0, 33, .inl (fun _ => 0)))) : en_C l E M_X12_has 0 0 0 [.ref 277, .int (Int32.ofInt 28)] h (pR (some (.int (Int32.ofInt 0))) h) := by
  refine en_mk m_X12_has rfl hl (Nat.le_of_ble_eq_true rfl) ?_
  refine x_aload_n (M := M_X12_has) dX12_has_0 rfl ?_
  refine x_getf (M := M_X12_has) (ci := 15) (C := RX12) (T := TX12) (N := 135) (ty := tyX12) cl15 dX12_has_1 o5148 9 (by decide) t_2400 (v := .ref 280) rfl ?_
  refine x_iload_n (M := M_X12_has) dX12_has_4 rfl ?_
  refine x_iald (M := M_X12_has) dX12_has_5 o5149 (vp_inD (by decide +kernel)) ?_
  refine x_top (M := M_X12_has) (y := (Int32.ofInt 0)) (by decide +kernel) ?_
  refine x_if_le (M := M_X12_has) (tgt := 13) dX12_has_6 (by decide) (fun _ => ?_) (fun q => absurd q (by decide +kernel))
  refine x_iconst (M := M_X12_has) dX12_has_13 ?_
  exact x_zret (M := M_X12_has) dX12_has_14 rfl (by decide) ⟨rfl, rfl⟩ (Nat.le_of_ble_eq_true rfl) (Nat.le_of_ble_eq_true rfl)
set_option maxRecDepth 10000 in
theorem q5153 {l : Launch} {E : EE} (hl : l.stackTraces = false) {h : HP} {dg : Int32} (o5151 : ob h 277 = some (.inr (15, ((RB dg).set 0 (.int (Int32.ofInt 0)))))) (o5152 : ob h 280 = some (.inl (0, 33, .inl (fun _ => 0)))) : en_C l E M_X12_has 0 0 0 [.ref 277, .int (Int32.ofInt 29)] h (pR (some (.int (Int32.ofInt 0))) h) := by
  refine en_mk m_X12_has rfl hl (Nat.le_of_ble_eq_true rfl) ?_
  refine x_aload_n (M := M_X12_has) dX12_has_0 rfl ?_
  refine x_getf (M := M_X12_has) (ci := 15) (C := RX12) (T := TX12) (N := 135) (ty := tyX12) cl15 dX12_has_1 o5151 9 (by decide) t_2400 (v := .ref 280) rfl ?_
  refine x_iload_n (M := M_X12_has) dX12_has_4 rfl ?_
  refine x_iald (M := M_X12_has) dX12_has_5 o5152 (vp_inD (by decide +kernel)) ?_
  refine x_top (M := M_X12_has) (y := (Int32.ofInt 0)) (by decide +kernel) ?_
  refine x_if_le (M := M_X12_has) (tgt := 13) dX12_has_6 (by decide) (fun _ => ?_) (fun q => absurd q (by decide +kernel))
  refine x_iconst (M := M_X12_has) dX12_has_13 ?_
  exact x_zret (M := M_X12_has) dX12_has_14 rfl (by decide) ⟨rfl, rfl⟩ (Nat.le_of_ble_eq_true rfl) (Nat.le_of_ble_eq_true rfl)
set_option maxRecDepth 10000 in
theorem q5156 {l : Launch} {E : EE} (hl : l.stackTraces = false) {h : HP} {dg : Int32} (o5154 : ob h 277 = some (.inr (15, ((RB dg).set 0 (.int (Int32.ofInt 0)))))) (o5155 : ob h 280 = some (.inl (0, 33, .inl (fun _ => 0)))) : en_C l E M_X12_has 0 0 0 [.ref 277, .int (Int32.ofInt 30)] h (pR (some (.int (Int32.ofInt 0))) h) := by
  refine en_mk m_X12_has rfl hl (Nat.le_of_ble_eq_true rfl) ?_
  refine x_aload_n (M := M_X12_has) dX12_has_0 rfl ?_
  refine x_getf (M := M_X12_has) (ci := 15) (C := RX12) (T := TX12) (N := 135) (ty := tyX12) cl15 dX12_has_1 o5154 9 (by decide) t_2400 (v := .ref 280) rfl ?_
  refine x_iload_n (M := M_X12_has) dX12_has_4 rfl ?_
  refine x_iald (M := M_X12_has) dX12_has_5 o5155 (vp_inD (by decide +kernel)) ?_
  refine x_top (M := M_X12_has) (y := (Int32.ofInt 0)) (by decide +kernel) ?_
  refine x_if_le (M := M_X12_has) (tgt := 13) dX12_has_6 (by decide) (fun _ => ?_) (fun q => absurd q (by decide +kernel))
  refine x_iconst (M := M_X12_has) dX12_has_13 ?_
  exact x_zret (M := M_X12_has) dX12_has_14 rfl (by decide) ⟨rfl, rfl⟩ (Nat.le_of_ble_eq_true rfl) (Nat.le_of_ble_eq_true rfl)
set_option maxRecDepth 10000 in
theorem q5159 {l : Launch} {E : EE} (hl : l.stackTraces = false) {h : HP} {dg : Int32} (o5157 : ob h 277 = some (.inr (15, ((RB dg).set 0 (.int (Int32.ofInt 0)))))) (o5158 : ob h 280 = some (.inl (0, 33, .inl (fun _ => 0)))) : en_C l E M_X12_has 0 0 0 [.ref 277, .int (Int32.ofInt 31)] h (pR (some (.int (Int32.ofInt 0))) h) := by
  refine en_mk m_X12_has rfl hl (Nat.le_of_ble_eq_true rfl) ?_
  refine x_aload_n (M := M_X12_has) dX12_has_0 rfl ?_
  refine x_getf (M := M_X12_has) (ci := 15) (C := RX12) (T := TX12) (N := 135) (ty := tyX12) cl15 dX12_has_1 o5157 9 (by decide) t_2400 (v := .ref 280) rfl ?_
  refine x_iload_n (M := M_X12_has) dX12_has_4 rfl ?_
  refine x_iald (M := M_X12_has) dX12_has_5 o5158 (vp_inD (by decide +kernel)) ?_
  refine x_top (M := M_X12_has) (y := (Int32.ofInt 0)) (by decide +kernel) ?_
  refine x_if_le (M := M_X12_has) (tgt := 13) dX12_has_6 (by decide) (fun _ => ?_) (fun q => absurd q (by decide +kernel))
  refine x_iconst (M := M_X12_has) dX12_has_13 ?_
  exact x_zret (M := M_X12_has) dX12_has_14 rfl (by decide) ⟨rfl, rfl⟩ (Nat.le_of_ble_eq_true rfl) (Nat.le_of_ble_eq_true rfl)
set_option maxRecDepth 10000 in
theorem q5160 {l : Launch} {E : EE} (hl : l.stackTraces = false) {h : HP} {a0 : Int32} {a1 : Int32} {dg : Int32} (c0 : ¬ (a0.toInt < 0)) (c1 : a0.toInt < 32) (c2 : ¬ (a1.toInt < 0)) (c3 : ¬ (5 < a1.toInt)) (c4 : ¬ (a1.toInt = 0)) (c5 : ¬ (a1.toInt = 1)) (c6 : ¬ (a1.toInt = 2)) (c7 : ¬ (a1.toInt = 3)) (c8 : a1.toInt = 4) (o5053 : ob h 277 = some (.inr (15, (RB dg)))) (o5065 : ob h 280 = some (.inl (0, 33, .inl (fun _ => 0)))) : en_C l E M_X12_count 1 0 0 [.ref 277, .int a0, .int a1] h (pF (some (.int (Int32.ofInt 0))) [277] h (fun h' => ob h' 277 = some (.inr (15, ((RB dg).set 0 (.int (Int32.ofInt 0))))) ∧ True)) := by
  refine en_mk m_X12_count rfl hl (Nat.le_of_ble_eq_true rfl) ?_
  refine x_aload_n (M := M_X12_count) dX12_count_0 rfl ?_
  refine x_iconst (M := M_X12_count) dX12_count_1 ?_
  refine y_put (M := M_X12_count) (ci := 15) (C := RX12) (T := TX12) (N := 135) (ty := tyX12) cl15 dX12_count_2 o5053 0 (by decide) t_2391 (Or.inl rfl) (Nat.le_of_ble_eq_true rfl) rfl (fun h5054 w5055 f5056 => ?_)
  refine x_aload_n (M := M_X12_count) dX12_count_5 rfl ?_
  refine x_iload_n (M := M_X12_count) dX12_count_6 rfl ?_
  refine x_callSR (M := M_X12_count) (M' := M_X12_isSlot) rfl rfl dX12_count_7 m_X12_isSlot t_2841 t_2842 (q447 hl c0 c1) rfl rfl (Nat.le_of_ble_eq_true rfl) (Nat.le_of_ble_eq_true rfl) (Nat.le_of_ble_eq_true rfl) (Nat.le_of_ble_eq_true rfl) ?_
  refine x_if_eq (M := M_X12_count) (tgt := 25) dX12_count_10 (by decide) (fun q => absurd q (by decide +kernel)) (fun _ => ?_)
  refine x_iload_n (M := M_X12_count) dX12_count_13 rfl ?_
  refine x_i2l (M := M_X12_count) dX12_count_14 ?_
  refine x_lconst (M := M_X12_count) dX12_count_15 ?_
  refine x_ldc2 (M := M_X12_count) dX12_count_16 t_3118 ?_
  refine x_norm (M := M_X12_count) (st' := [.long (Int64.ofInt 5), .long (Int64.ofInt 0), .long (a1.toInt64), .ref 277]) rfl (vj_cons (by decide +kernel : (5 : Int64) = (Int64.ofInt 5)) (vj_cons (by decide +kernel : (Int64.ofNat ((0 : Fin 2) : Nat)) = (Int64.ofInt 0)) rfl)) rfl rfl rfl ?_
  refine x_callSR (M := M_X12_count) (M' := M_X12_in) rfl rfl dX12_count_19 m_X12_in t_2818 t_2819 (q5057 hl c2 c3 c4 c5 c6 c7 c8) rfl rfl (Nat.le_of_ble_eq_true rfl) (Nat.le_of_ble_eq_true rfl) (Nat.le_of_ble_eq_true rfl) (Nat.le_of_ble_eq_true rfl) ?_
  refine x_if_ne (M := M_X12_count) (tgt := 29) dX12_count_22 (by decide) (fun _ => ?_) (fun q => absurd q (by decide +kernel))
  refine x_iconst (M := M_X12_count) dX12_count_29 ?_
  refine x_iconst (M := M_X12_count) dX12_count_30 ?_
  refine y_callVR (M := M_X12_count) (M' := M_X12_fails) rfl rfl dX12_count_31 m_X12_fails t_2805 t_2807 s_157 (q241 hl w5055) rfl rfl w5055 rfl (Nat.le_of_ble_eq_true rfl) (Nat.le_of_ble_eq_true rfl) (Nat.le_of_ble_eq_true rfl) (Nat.le_of_ble_eq_true rfl) (fun h5058 f5059 w5060 => ?_)
  obtain ⟨o5061, -⟩ := w5060
  refine x_if_eq (M := M_X12_count) (tgt := 39) dX12_count_34 (by decide) (fun _ => ?_) (fun q => absurd q (by decide +kernel))
  refine x_iload_n (M := M_X12_count) dX12_count_39 rfl ?_
  refine x_tabIn (M := M_X12_count) (tgt := 100) (off := 60) dX12_count_40 (by have e9 : a1.toInt = 4 := (by have e8 : a1.toInt = a1.toInt := rfl; omega); rw [e9] <;> decide) (by have e9 : a1.toInt = 4 := (by have e8 : a1.toInt = a1.toInt := rfl; omega); rw [e9] <;> decide) (by have e9 : a1.toInt = 4 := (by have e8 : a1.toInt = a1.toInt := rfl; omega); rw [e9] <;> rfl) (by decide) ?_
  refine x_iconst (M := M_X12_count) dX12_count_100 ?_
  refine x_istore_n (M := M_X12_count) dX12_count_101 (Nat.le_of_ble_eq_true rfl) rfl ?_
  refine x_iconst (M := M_X12_count) dX12_count_102 ?_
  refine x_istore (M := M_X12_count) dX12_count_103 (Nat.le_of_ble_eq_true rfl) rfl ?_
  refine x_iload (M := M_X12_count) dX12_count_105 rfl ?_
  refine x_bipush (M := M_X12_count) dX12_count_107 ?_
  refine x_icmp_ge (M := M_X12_count) (tgt := 135) dX12_count_109 (by decide) (fun q => absurd q (by decide +kernel)) (fun _ => ?_)
  refine x_aload_n (M := M_X12_count) dX12_count_112 rfl ?_
  refine x_iload (M := M_X12_count) dX12_count_113 rfl ?_
  have o5066 := (f5059 280 _ (by decide) (f5056 280 _ (by decide) o5065))
  refine x_callVR (M := M_X12_count) (M' := M_X12_has) rfl rfl dX12_count_115 m_X12_has t_3033 t_3035 s_197 (q5064 hl o5061 o5066) rfl rfl o5061 rfl (Nat.le_of_ble_eq_true rfl) (Nat.le_of_ble_eq_true rfl) (Nat.le_of_ble_eq_true rfl) (Nat.le_of_ble_eq_true rfl) ?_
  refine x_if_eq (M := M_X12_count) (tgt := 127) dX12_count_118 (by decide) (fun _ => ?_) (fun q => absurd q (by decide +kernel))
  refine x_iload_n (M := M_X12_count) dX12_count_127 rfl ?_
  refine x_istore_n (M := M_X12_count) dX12_count_128 (Nat.le_of_ble_eq_true rfl) rfl ?_
  refine x_iinc (M := M_X12_count) dX12_count_129 rfl (Nat.le_of_ble_eq_true rfl) rfl ?_
  refine x_lvs (M := M_X12_count) (lv' := [some (.ref 277), some (.int a0), some (.int a1), some (.int (Int32.ofInt 0)), some (.int (Int32.ofInt 1))]) (by rw [(by decide +kernel : (Int32.ofInt 0) + Int32.ofInt 1 = (Int32.ofInt 1))] <;> rfl) ?_
  refine x_goto (M := M_X12_count) (tgt := 105) dX12_count_132 (by decide) ?_
  refine x_iload (M := M_X12_count) dX12_count_105 rfl ?_
  refine x_bipush (M := M_X12_count) dX12_count_107 ?_
  refine x_icmp_ge (M := M_X12_count) (tgt := 135) dX12_count_109 (by decide) (fun q => absurd q (by decide +kernel)) (fun _ => ?_)
  refine x_aload_n (M := M_X12_count) dX12_count_112 rfl ?_
  refine x_iload (M := M_X12_count) dX12_count_113 rfl ?_
  refine x_callVR (M := M_X12_count) (M' := M_X12_has) rfl rfl dX12_count_115 m_X12_has t_3033 t_3035 s_197 (q5069 hl o5061 o5066) rfl rfl o5061 rfl (Nat.le_of_ble_eq_true rfl) (Nat.le_of_ble_eq_true rfl) (Nat.le_of_ble_eq_true rfl) (Nat.le_of_ble_eq_true rfl) ?_
  refine x_if_eq (M := M_X12_count) (tgt := 127) dX12_count_118 (by decide) (fun _ => ?_) (fun q => absurd q (by decide +kernel))
  refine x_iload_n (M := M_X12_count) dX12_count_127 rfl ?_
  refine x_istore_n (M := M_X12_count) dX12_count_128 (Nat.le_of_ble_eq_true rfl) rfl ?_
  refine x_iinc (M := M_X12_count) dX12_count_129 rfl (Nat.le_of_ble_eq_true rfl) rfl ?_
  refine x_lvs (M := M_X12_count) (lv' := [some (.ref 277), some (.int a0), some (.int a1), some (.int (Int32.ofInt 0)), some (.int (Int32.ofInt 2))]) (by rw [(by decide +kernel : (Int32.ofInt 1) + Int32.ofInt 1 = (Int32.ofInt 2))] <;> rfl) ?_
  refine x_goto (M := M_X12_count) (tgt := 105) dX12_count_132 (by decide) ?_
  refine x_iload (M := M_X12_count) dX12_count_105 rfl ?_
  refine x_bipush (M := M_X12_count) dX12_count_107 ?_
  refine x_icmp_ge (M := M_X12_count) (tgt := 135) dX12_count_109 (by decide) (fun q => absurd q (by decide +kernel)) (fun _ => ?_)
  refine x_aload_n (M := M_X12_count) dX12_count_112 rfl ?_
  refine x_iload (M := M_X12_count) dX12_count_113 rfl ?_
  refine x_callVR (M := M_X12_count) (M' := M_X12_has) rfl rfl dX12_count_115 m_X12_has t_3033 t_3035 s_197 (q5072 hl o5061 o5066) rfl rfl o5061 rfl (Nat.le_of_ble_eq_true rfl) (Nat.le_of_ble_eq_true rfl) (Nat.le_of_ble_eq_true rfl) (Nat.le_of_ble_eq_true rfl) ?_
  refine x_if_eq (M := M_X12_count) (tgt := 127) dX12_count_118 (by decide) (fun _ => ?_) (fun q => absurd q (by decide +kernel))
  refine x_iload_n (M := M_X12_count) dX12_count_127 rfl ?_
  refine x_istore_n (M := M_X12_count) dX12_count_128 (Nat.le_of_ble_eq_true rfl) rfl ?_
  refine x_lvs (M := M_X12_count) (lv' := [some (.ref 277), some (.int a0), some (.int a1), some (.int (Int32.ofInt 0)), some (.int (Int32.ofInt 2))]) rfl ?_
  refine x_iinc (M := M_X12_count) dX12_count_129 rfl (Nat.le_of_ble_eq_true rfl) rfl ?_
  refine x_lvs (M := M_X12_count) (lv' := [some (.ref 277), some (.int a0), some (.int a1), some (.int (Int32.ofInt 0)), some (.int (Int32.ofInt 3))]) (by rw [(by decide +kernel : (Int32.ofInt 2) + Int32.ofInt 1 = (Int32.ofInt 3))] <;> rfl) ?_
  refine x_goto (M := M_X12_count) (tgt := 105) dX12_count_132 (by decide) ?_
  refine x_iload (M := M_X12_count) dX12_count_105 rfl ?_
  refine x_bipush (M := M_X12_count) dX12_count_107 ?_
  refine x_icmp_ge (M := M_X12_count) (tgt := 135) dX12_count_109 (by decide) (fun q => absurd q (by decide +kernel)) (fun _ => ?_)
  refine x_aload_n (M := M_X12_count) dX12_count_112 rfl ?_
  refine x_iload (M := M_X12_count) dX12_count_113 rfl ?_
  refine x_callVR (M := M_X12_count) (M' := M_X12_has) rfl rfl dX12_count_115 m_X12_has t_3033 t_3035 s_197 (q5075 hl o5061 o5066) rfl rfl o5061 rfl (Nat.le_of_ble_eq_true rfl) (Nat.le_of_ble_eq_true rfl) (Nat.le_of_ble_eq_true rfl) (Nat.le_of_ble_eq_true rfl) ?_
  refine x_if_eq (M := M_X12_count) (tgt := 127) dX12_count_118 (by decide) (fun _ => ?_) (fun q => absurd q (by decide +kernel))
  refine x_iload_n (M := M_X12_count) dX12_count_127 rfl ?_
  refine x_istore_n (M := M_X12_count) dX12_count_128 (Nat.le_of_ble_eq_true rfl) rfl ?_
  refine x_iinc (M := M_X12_count) dX12_count_129 rfl (Nat.le_of_ble_eq_true rfl) rfl ?_
  refine x_lvs (M := M_X12_count) (lv' := [some (.ref 277), some (.int a0), some (.int a1), some (.int (Int32.ofInt 0)), some (.int (Int32.ofInt 4))]) (by rw [(by decide +kernel : (Int32.ofInt 3) + Int32.ofInt 1 = (Int32.ofInt 4))] <;> rfl) ?_
  refine x_goto (M := M_X12_count) (tgt := 105) dX12_count_132 (by decide) ?_
  refine x_iload (M := M_X12_count) dX12_count_105 rfl ?_
  refine x_bipush (M := M_X12_count) dX12_count_107 ?_
  refine x_icmp_ge (M := M_X12_count) (tgt := 135) dX12_count_109 (by decide) (fun q => absurd q (by decide +kernel)) (fun _ => ?_)
  refine x_aload_n (M := M_X12_count) dX12_count_112 rfl ?_
  refine x_iload (M := M_X12_count) dX12_count_113 rfl ?_
  refine x_callVR (M := M_X12_count) (M' := M_X12_has) rfl rfl dX12_count_115 m_X12_has t_3033 t_3035 s_197 (q5078 hl o5061 o5066) rfl rfl o5061 rfl (Nat.le_of_ble_eq_true rfl) (Nat.le_of_ble_eq_true rfl) (Nat.le_of_ble_eq_true rfl) (Nat.le_of_ble_eq_true rfl) ?_
  refine x_if_eq (M := M_X12_count) (tgt := 127) dX12_count_118 (by decide) (fun _ => ?_) (fun q => absurd q (by decide +kernel))
  refine x_iload_n (M := M_X12_count) dX12_count_127 rfl ?_
  refine x_istore_n (M := M_X12_count) dX12_count_128 (Nat.le_of_ble_eq_true rfl) rfl ?_
  refine x_iinc (M := M_X12_count) dX12_count_129 rfl (Nat.le_of_ble_eq_true rfl) rfl ?_
  refine x_lvs (M := M_X12_count) (lv' := [some (.ref 277), some (.int a0), some (.int a1), some (.int (Int32.ofInt 0)), some (.int (Int32.ofInt 5))]) (by rw [(by decide +kernel : (Int32.ofInt 4) + Int32.ofInt 1 = (Int32.ofInt 5))] <;> rfl) ?_
  refine x_goto (M := M_X12_count) (tgt := 105) dX12_count_132 (by decide) ?_
  refine x_iload (M := M_X12_count) dX12_count_105 rfl ?_
  refine x_bipush (M := M_X12_count) dX12_count_107 ?_
  refine x_icmp_ge (M := M_X12_count) (tgt := 135) dX12_count_109 (by decide) (fun q => absurd q (by decide +kernel)) (fun _ => ?_)
  refine x_aload_n (M := M_X12_count) dX12_count_112 rfl ?_
  refine x_iload (M := M_X12_count) dX12_count_113 rfl ?_
  refine x_callVR (M := M_X12_count) (M' := M_X12_has) rfl rfl dX12_count_115 m_X12_has t_3033 t_3035 s_197 (q5081 hl o5061 o5066) rfl rfl o5061 rfl (Nat.le_of_ble_eq_true rfl) (Nat.le_of_ble_eq_true rfl) (Nat.le_of_ble_eq_true rfl) (Nat.le_of_ble_eq_true rfl) ?_
  refine x_if_eq (M := M_X12_count) (tgt := 127) dX12_count_118 (by decide) (fun _ => ?_) (fun q => absurd q (by decide +kernel))
  refine x_iload_n (M := M_X12_count) dX12_count_127 rfl ?_
  refine x_istore_n (M := M_X12_count) dX12_count_128 (Nat.le_of_ble_eq_true rfl) rfl ?_
  refine x_iinc (M := M_X12_count) dX12_count_129 rfl (Nat.le_of_ble_eq_true rfl) rfl ?_
  refine x_lvs (M := M_X12_count) (lv' := [some (.ref 277), some (.int a0), some (.int a1), some (.int (Int32.ofInt 0)), some (.int (Int32.ofInt 6))]) (by rw [(by decide +kernel : (Int32.ofInt 5) + Int32.ofInt 1 = (Int32.ofInt 6))] <;> rfl) ?_
  refine x_goto (M := M_X12_count) (tgt := 105) dX12_count_132 (by decide) ?_
  refine x_iload (M := M_X12_count) dX12_count_105 rfl ?_
  refine x_bipush (M := M_X12_count) dX12_count_107 ?_
  refine x_icmp_ge (M := M_X12_count) (tgt := 135) dX12_count_109 (by decide) (fun q => absurd q (by decide +kernel)) (fun _ => ?_)
  refine x_aload_n (M := M_X12_count) dX12_count_112 rfl ?_
  refine x_iload (M := M_X12_count) dX12_count_113 rfl ?_
  refine x_callVR (M := M_X12_count) (M' := M_X12_has) rfl rfl dX12_count_115 m_X12_has t_3033 t_3035 s_197 (q5084 hl o5061 o5066) rfl rfl o5061 rfl (Nat.le_of_ble_eq_true rfl) (Nat.le_of_ble_eq_true rfl) (Nat.le_of_ble_eq_true rfl) (Nat.le_of_ble_eq_true rfl) ?_
  refine x_if_eq (M := M_X12_count) (tgt := 127) dX12_count_118 (by decide) (fun _ => ?_) (fun q => absurd q (by decide +kernel))
  refine x_iload_n (M := M_X12_count) dX12_count_127 rfl ?_
  refine x_istore_n (M := M_X12_count) dX12_count_128 (Nat.le_of_ble_eq_true rfl) rfl ?_
  refine x_iinc (M := M_X12_count) dX12_count_129 rfl (Nat.le_of_ble_eq_true rfl) rfl ?_
  refine x_lvs (M := M_X12_count) (lv' := [some (.ref 277), some (.int a0), some (.int a1), some (.int (Int32.ofInt 0)), some (.int (Int32.ofInt 7))]) (by rw [(by decide +kernel : (Int32.ofInt 6) + Int32.ofInt 1 = (Int32.ofInt 7))] <;> rfl) ?_
  refine x_goto (M := M_X12_count) (tgt := 105) dX12_count_132 (by decide) ?_
  refine x_iload (M := M_X12_count) dX12_count_105 rfl ?_
  refine x_bipush (M := M_X12_count) dX12_count_107 ?_
  refine x_icmp_ge (M := M_X12_count) (tgt := 135) dX12_count_109 (by decide) (fun q => absurd q (by decide +kernel)) (fun _ => ?_)
  refine x_aload_n (M := M_X12_count) dX12_count_112 rfl ?_
  refine x_iload (M := M_X12_count) dX12_count_113 rfl ?_
  refine x_callVR (M := M_X12_count) (M' := M_X12_has) rfl rfl dX12_count_115 m_X12_has t_3033 t_3035 s_197 (q5087 hl o5061 o5066) rfl rfl o5061 rfl (Nat.le_of_ble_eq_true rfl) (Nat.le_of_ble_eq_true rfl) (Nat.le_of_ble_eq_true rfl) (Nat.le_of_ble_eq_true rfl) ?_
  refine x_if_eq (M := M_X12_count) (tgt := 127) dX12_count_118 (by decide) (fun _ => ?_) (fun q => absurd q (by decide +kernel))
  refine x_iload_n (M := M_X12_count) dX12_count_127 rfl ?_
  refine x_istore_n (M := M_X12_count) dX12_count_128 (Nat.le_of_ble_eq_true rfl) rfl ?_
  refine x_lvs (M := M_X12_count) (lv' := [some (.ref 277), some (.int a0), some (.int a1), some (.int (Int32.ofInt 0)), some (.int (Int32.ofInt 7))]) rfl ?_
  refine x_iinc (M := M_X12_count) dX12_count_129 rfl (Nat.le_of_ble_eq_true rfl) rfl ?_
  refine x_lvs (M := M_X12_count) (lv' := [some (.ref 277), some (.int a0), some (.int a1), some (.int (Int32.ofInt 0)), some (.int (Int32.ofInt 8))]) (by rw [(by decide +kernel : (Int32.ofInt 7) + Int32.ofInt 1 = (Int32.ofInt 8))] <;> rfl) ?_
  refine x_goto (M := M_X12_count) (tgt := 105) dX12_count_132 (by decide) ?_
  refine x_iload (M := M_X12_count) dX12_count_105 rfl ?_
  refine x_bipush (M := M_X12_count) dX12_count_107 ?_
  refine x_icmp_ge (M := M_X12_count) (tgt := 135) dX12_count_109 (by decide) (fun q => absurd q (by decide +kernel)) (fun _ => ?_)
  refine x_aload_n (M := M_X12_count) dX12_count_112 rfl ?_
  refine x_iload (M := M_X12_count) dX12_count_113 rfl ?_
  refine x_callVR (M := M_X12_count) (M' := M_X12_has) rfl rfl dX12_count_115 m_X12_has t_3033 t_3035 s_197 (q5090 hl o5061 o5066) rfl rfl o5061 rfl (Nat.le_of_ble_eq_true rfl) (Nat.le_of_ble_eq_true rfl) (Nat.le_of_ble_eq_true rfl) (Nat.le_of_ble_eq_true rfl) ?_
  refine x_if_eq (M := M_X12_count) (tgt := 127) dX12_count_118 (by decide) (fun _ => ?_) (fun q => absurd q (by decide +kernel))
  refine x_iload_n (M := M_X12_count) dX12_count_127 rfl ?_
  refine x_istore_n (M := M_X12_count) dX12_count_128 (Nat.le_of_ble_eq_true rfl) rfl ?_
  refine x_iinc (M := M_X12_count) dX12_count_129 rfl (Nat.le_of_ble_eq_true rfl) rfl ?_
  refine x_lvs (M := M_X12_count) (lv' := [some (.ref 277), some (.int a0), some (.int a1), some (.int (Int32.ofInt 0)), some (.int (Int32.ofInt 9))]) (by rw [(by decide +kernel : (Int32.ofInt 8) + Int32.ofInt 1 = (Int32.ofInt 9))] <;> rfl) ?_
  refine x_goto (M := M_X12_count) (tgt := 105) dX12_count_132 (by decide) ?_
  refine x_iload (M := M_X12_count) dX12_count_105 rfl ?_
  refine x_bipush (M := M_X12_count) dX12_count_107 ?_
  refine x_icmp_ge (M := M_X12_count) (tgt := 135) dX12_count_109 (by decide) (fun q => absurd q (by decide +kernel)) (fun _ => ?_)
  refine x_aload_n (M := M_X12_count) dX12_count_112 rfl ?_
  refine x_iload (M := M_X12_count) dX12_count_113 rfl ?_
  refine x_callVR (M := M_X12_count) (M' := M_X12_has) rfl rfl dX12_count_115 m_X12_has t_3033 t_3035 s_197 (q5093 hl o5061 o5066) rfl rfl o5061 rfl (Nat.le_of_ble_eq_true rfl) (Nat.le_of_ble_eq_true rfl) (Nat.le_of_ble_eq_true rfl) (Nat.le_of_ble_eq_true rfl) ?_
  refine x_if_eq (M := M_X12_count) (tgt := 127) dX12_count_118 (by decide) (fun _ => ?_) (fun q => absurd q (by decide +kernel))
  refine x_iload_n (M := M_X12_count) dX12_count_127 rfl ?_
  refine x_istore_n (M := M_X12_count) dX12_count_128 (Nat.le_of_ble_eq_true rfl) rfl ?_
  refine x_iinc (M := M_X12_count) dX12_count_129 rfl (Nat.le_of_ble_eq_true rfl) rfl ?_
  refine x_lvs (M := M_X12_count) (lv' := [some (.ref 277), some (.int a0), some (.int a1), some (.int (Int32.ofInt 0)), some (.int (Int32.ofInt 10))]) (by rw [(by decide +kernel : (Int32.ofInt 9) + Int32.ofInt 1 = (Int32.ofInt 10))] <;> rfl) ?_
  refine x_goto (M := M_X12_count) (tgt := 105) dX12_count_132 (by decide) ?_
  refine x_iload (M := M_X12_count) dX12_count_105 rfl ?_
  refine x_bipush (M := M_X12_count) dX12_count_107 ?_
  refine x_icmp_ge (M := M_X12_count) (tgt := 135) dX12_count_109 (by decide) (fun q => absurd q (by decide +kernel)) (fun _ => ?_)
  refine x_aload_n (M := M_X12_count) dX12_count_112 rfl ?_
  refine x_iload (M := M_X12_count) dX12_count_113 rfl ?_
  refine x_callVR (M := M_X12_count) (M' := M_X12_has) rfl rfl dX12_count_115 m_X12_has t_3033 t_3035 s_197 (q5096 hl o5061 o5066) rfl rfl o5061 rfl (Nat.le_of_ble_eq_true rfl) (Nat.le_of_ble_eq_true rfl) (Nat.le_of_ble_eq_true rfl) (Nat.le_of_ble_eq_true rfl) ?_
  refine x_if_eq (M := M_X12_count) (tgt := 127) dX12_count_118 (by decide) (fun _ => ?_) (fun q => absurd q (by decide +kernel))
  refine x_iload_n (M := M_X12_count) dX12_count_127 rfl ?_
  refine x_istore_n (M := M_X12_count) dX12_count_128 (Nat.le_of_ble_eq_true rfl) rfl ?_
  refine x_iinc (M := M_X12_count) dX12_count_129 rfl (Nat.le_of_ble_eq_true rfl) rfl ?_
  refine x_lvs (M := M_X12_count) (lv' := [some (.ref 277), some (.int a0), some (.int a1), some (.int (Int32.ofInt 0)), some (.int (Int32.ofInt 11))]) (by rw [(by decide +kernel : (Int32.ofInt 10) + Int32.ofInt 1 = (Int32.ofInt 11))] <;> rfl) ?_
  refine x_goto (M := M_X12_count) (tgt := 105) dX12_count_132 (by decide) ?_
  refine x_iload (M := M_X12_count) dX12_count_105 rfl ?_
  refine x_bipush (M := M_X12_count) dX12_count_107 ?_
  refine x_icmp_ge (M := M_X12_count) (tgt := 135) dX12_count_109 (by decide) (fun q => absurd q (by decide +kernel)) (fun _ => ?_)
  refine x_aload_n (M := M_X12_count) dX12_count_112 rfl ?_
  refine x_iload (M := M_X12_count) dX12_count_113 rfl ?_
  refine x_callVR (M := M_X12_count) (M' := M_X12_has) rfl rfl dX12_count_115 m_X12_has t_3033 t_3035 s_197 (q5099 hl o5061 o5066) rfl rfl o5061 rfl (Nat.le_of_ble_eq_true rfl) (Nat.le_of_ble_eq_true rfl) (Nat.le_of_ble_eq_true rfl) (Nat.le_of_ble_eq_true rfl) ?_
  refine x_if_eq (M := M_X12_count) (tgt := 127) dX12_count_118 (by decide) (fun _ => ?_) (fun q => absurd q (by decide +kernel))
  refine x_iload_n (M := M_X12_count) dX12_count_127 rfl ?_
  refine x_istore_n (M := M_X12_count) dX12_count_128 (Nat.le_of_ble_eq_true rfl) rfl ?_
  refine x_iinc (M := M_X12_count) dX12_count_129 rfl (Nat.le_of_ble_eq_true rfl) rfl ?_
  refine x_lvs (M := M_X12_count) (lv' := [some (.ref 277), some (.int a0), some (.int a1), some (.int (Int32.ofInt 0)), some (.int (Int32.ofInt 12))]) (by rw [(by decide +kernel : (Int32.ofInt 11) + Int32.ofInt 1 = (Int32.ofInt 12))] <;> rfl) ?_
  refine x_goto (M := M_X12_count) (tgt := 105) dX12_count_132 (by decide) ?_
  refine x_iload (M := M_X12_count) dX12_count_105 rfl ?_
  refine x_bipush (M := M_X12_count) dX12_count_107 ?_
  refine x_icmp_ge (M := M_X12_count) (tgt := 135) dX12_count_109 (by decide) (fun q => absurd q (by decide +kernel)) (fun _ => ?_)
  refine x_aload_n (M := M_X12_count) dX12_count_112 rfl ?_
  refine x_iload (M := M_X12_count) dX12_count_113 rfl ?_
  refine x_callVR (M := M_X12_count) (M' := M_X12_has) rfl rfl dX12_count_115 m_X12_has t_3033 t_3035 s_197 (q5102 hl o5061 o5066) rfl rfl o5061 rfl (Nat.le_of_ble_eq_true rfl) (Nat.le_of_ble_eq_true rfl) (Nat.le_of_ble_eq_true rfl) (Nat.le_of_ble_eq_true rfl) ?_
  refine x_if_eq (M := M_X12_count) (tgt := 127) dX12_count_118 (by decide) (fun _ => ?_) (fun q => absurd q (by decide +kernel))
  refine x_iload_n (M := M_X12_count) dX12_count_127 rfl ?_
  refine x_istore_n (M := M_X12_count) dX12_count_128 (Nat.le_of_ble_eq_true rfl) rfl ?_
  refine x_lvs (M := M_X12_count) (lv' := [some (.ref 277), some (.int a0), some (.int a1), some (.int (Int32.ofInt 0)), some (.int (Int32.ofInt 12))]) rfl ?_
  refine x_iinc (M := M_X12_count) dX12_count_129 rfl (Nat.le_of_ble_eq_true rfl) rfl ?_
  refine x_lvs (M := M_X12_count) (lv' := [some (.ref 277), some (.int a0), some (.int a1), some (.int (Int32.ofInt 0)), some (.int (Int32.ofInt 13))]) (by rw [(by decide +kernel : (Int32.ofInt 12) + Int32.ofInt 1 = (Int32.ofInt 13))] <;> rfl) ?_
  refine x_goto (M := M_X12_count) (tgt := 105) dX12_count_132 (by decide) ?_
  refine x_iload (M := M_X12_count) dX12_count_105 rfl ?_
  refine x_bipush (M := M_X12_count) dX12_count_107 ?_
  refine x_icmp_ge (M := M_X12_count) (tgt := 135) dX12_count_109 (by decide) (fun q => absurd q (by decide +kernel)) (fun _ => ?_)
  refine x_aload_n (M := M_X12_count) dX12_count_112 rfl ?_
  refine x_iload (M := M_X12_count) dX12_count_113 rfl ?_
  refine x_callVR (M := M_X12_count) (M' := M_X12_has) rfl rfl dX12_count_115 m_X12_has t_3033 t_3035 s_197 (q5105 hl o5061 o5066) rfl rfl o5061 rfl (Nat.le_of_ble_eq_true rfl) (Nat.le_of_ble_eq_true rfl) (Nat.le_of_ble_eq_true rfl) (Nat.le_of_ble_eq_true rfl) ?_
  refine x_if_eq (M := M_X12_count) (tgt := 127) dX12_count_118 (by decide) (fun _ => ?_) (fun q => absurd q (by decide +kernel))
  refine x_iload_n (M := M_X12_count) dX12_count_127 rfl ?_
  refine x_istore_n (M := M_X12_count) dX12_count_128 (Nat.le_of_ble_eq_true rfl) rfl ?_
  refine x_iinc (M := M_X12_count) dX12_count_129 rfl (Nat.le_of_ble_eq_true rfl) rfl ?_
  refine x_lvs (M := M_X12_count) (lv' := [some (.ref 277), some (.int a0), some (.int a1), some (.int (Int32.ofInt 0)), some (.int (Int32.ofInt 14))]) (by rw [(by decide +kernel : (Int32.ofInt 13) + Int32.ofInt 1 = (Int32.ofInt 14))] <;> rfl) ?_
  refine x_goto (M := M_X12_count) (tgt := 105) dX12_count_132 (by decide) ?_
  refine x_iload (M := M_X12_count) dX12_count_105 rfl ?_
  refine x_bipush (M := M_X12_count) dX12_count_107 ?_
  refine x_icmp_ge (M := M_X12_count) (tgt := 135) dX12_count_109 (by decide) (fun q => absurd q (by decide +kernel)) (fun _ => ?_)
  refine x_aload_n (M := M_X12_count) dX12_count_112 rfl ?_
  refine x_iload (M := M_X12_count) dX12_count_113 rfl ?_
  refine x_callVR (M := M_X12_count) (M' := M_X12_has) rfl rfl dX12_count_115 m_X12_has t_3033 t_3035 s_197 (q5108 hl o5061 o5066) rfl rfl o5061 rfl (Nat.le_of_ble_eq_true rfl) (Nat.le_of_ble_eq_true rfl) (Nat.le_of_ble_eq_true rfl) (Nat.le_of_ble_eq_true rfl) ?_
  refine x_if_eq (M := M_X12_count) (tgt := 127) dX12_count_118 (by decide) (fun _ => ?_) (fun q => absurd q (by decide +kernel))
  refine x_iload_n (M := M_X12_count) dX12_count_127 rfl ?_
  refine x_istore_n (M := M_X12_count) dX12_count_128 (Nat.le_of_ble_eq_true rfl) rfl ?_
  refine x_iinc (M := M_X12_count) dX12_count_129 rfl (Nat.le_of_ble_eq_true rfl) rfl ?_
  refine x_lvs (M := M_X12_count) (lv' := [some (.ref 277), some (.int a0), some (.int a1), some (.int (Int32.ofInt 0)), some (.int (Int32.ofInt 15))]) (by rw [(by decide +kernel : (Int32.ofInt 14) + Int32.ofInt 1 = (Int32.ofInt 15))] <;> rfl) ?_
  refine x_goto (M := M_X12_count) (tgt := 105) dX12_count_132 (by decide) ?_
  refine x_iload (M := M_X12_count) dX12_count_105 rfl ?_
  refine x_bipush (M := M_X12_count) dX12_count_107 ?_
  refine x_icmp_ge (M := M_X12_count) (tgt := 135) dX12_count_109 (by decide) (fun q => absurd q (by decide +kernel)) (fun _ => ?_)
  refine x_aload_n (M := M_X12_count) dX12_count_112 rfl ?_
  refine x_iload (M := M_X12_count) dX12_count_113 rfl ?_
  refine x_callVR (M := M_X12_count) (M' := M_X12_has) rfl rfl dX12_count_115 m_X12_has t_3033 t_3035 s_197 (q5111 hl o5061 o5066) rfl rfl o5061 rfl (Nat.le_of_ble_eq_true rfl) (Nat.le_of_ble_eq_true rfl) (Nat.le_of_ble_eq_true rfl) (Nat.le_of_ble_eq_true rfl) ?_
  refine x_if_eq (M := M_X12_count) (tgt := 127) dX12_count_118 (by decide) (fun _ => ?_) (fun q => absurd q (by decide +kernel))
  refine x_iload_n (M := M_X12_count) dX12_count_127 rfl ?_
  refine x_istore_n (M := M_X12_count) dX12_count_128 (Nat.le_of_ble_eq_true rfl) rfl ?_
  refine x_iinc (M := M_X12_count) dX12_count_129 rfl (Nat.le_of_ble_eq_true rfl) rfl ?_
  refine x_lvs (M := M_X12_count) (lv' := [some (.ref 277), some (.int a0), some (.int a1), some (.int (Int32.ofInt 0)), some (.int (Int32.ofInt 16))]) (by rw [(by decide +kernel : (Int32.ofInt 15) + Int32.ofInt 1 = (Int32.ofInt 16))] <;> rfl) ?_
  refine x_goto (M := M_X12_count) (tgt := 105) dX12_count_132 (by decide) ?_
  refine x_iload (M := M_X12_count) dX12_count_105 rfl ?_
  refine x_bipush (M := M_X12_count) dX12_count_107 ?_
  refine x_icmp_ge (M := M_X12_count) (tgt := 135) dX12_count_109 (by decide) (fun q => absurd q (by decide +kernel)) (fun _ => ?_)
  refine x_aload_n (M := M_X12_count) dX12_count_112 rfl ?_
  refine x_iload (M := M_X12_count) dX12_count_113 rfl ?_
  refine x_callVR (M := M_X12_count) (M' := M_X12_has) rfl rfl dX12_count_115 m_X12_has t_3033 t_3035 s_197 (q5114 hl o5061 o5066) rfl rfl o5061 rfl (Nat.le_of_ble_eq_true rfl) (Nat.le_of_ble_eq_true rfl) (Nat.le_of_ble_eq_true rfl) (Nat.le_of_ble_eq_true rfl) ?_
  refine x_if_eq (M := M_X12_count) (tgt := 127) dX12_count_118 (by decide) (fun _ => ?_) (fun q => absurd q (by decide +kernel))
  refine x_iload_n (M := M_X12_count) dX12_count_127 rfl ?_
  refine x_istore_n (M := M_X12_count) dX12_count_128 (Nat.le_of_ble_eq_true rfl) rfl ?_
  refine x_iinc (M := M_X12_count) dX12_count_129 rfl (Nat.le_of_ble_eq_true rfl) rfl ?_
  refine x_lvs (M := M_X12_count) (lv' := [some (.ref 277), some (.int a0), some (.int a1), some (.int (Int32.ofInt 0)), some (.int (Int32.ofInt 17))]) (by rw [(by decide +kernel : (Int32.ofInt 16) + Int32.ofInt 1 = (Int32.ofInt 17))] <;> rfl) ?_
  refine x_goto (M := M_X12_count) (tgt := 105) dX12_count_132 (by decide) ?_
  refine x_iload (M := M_X12_count) dX12_count_105 rfl ?_
  refine x_bipush (M := M_X12_count) dX12_count_107 ?_
  refine x_icmp_ge (M := M_X12_count) (tgt := 135) dX12_count_109 (by decide) (fun q => absurd q (by decide +kernel)) (fun _ => ?_)
  refine x_aload_n (M := M_X12_count) dX12_count_112 rfl ?_
  refine x_iload (M := M_X12_count) dX12_count_113 rfl ?_
  refine x_callVR (M := M_X12_count) (M' := M_X12_has) rfl rfl dX12_count_115 m_X12_has t_3033 t_3035 s_197 (q5117 hl o5061 o5066) rfl rfl o5061 rfl (Nat.le_of_ble_eq_true rfl) (Nat.le_of_ble_eq_true rfl) (Nat.le_of_ble_eq_true rfl) (Nat.le_of_ble_eq_true rfl) ?_
  refine x_if_eq (M := M_X12_count) (tgt := 127) dX12_count_118 (by decide) (fun _ => ?_) (fun q => absurd q (by decide +kernel))
  refine x_iload_n (M := M_X12_count) dX12_count_127 rfl ?_
  refine x_istore_n (M := M_X12_count) dX12_count_128 (Nat.le_of_ble_eq_true rfl) rfl ?_
  refine x_lvs (M := M_X12_count) (lv' := [some (.ref 277), some (.int a0), some (.int a1), some (.int (Int32.ofInt 0)), some (.int (Int32.ofInt 17))]) rfl ?_
  refine x_iinc (M := M_X12_count) dX12_count_129 rfl (Nat.le_of_ble_eq_true rfl) rfl ?_
  refine x_lvs (M := M_X12_count) (lv' := [some (.ref 277), some (.int a0), some (.int a1), some (.int (Int32.ofInt 0)), some (.int (Int32.ofInt 18))]) (by rw [(by decide +kernel : (Int32.ofInt 17) + Int32.ofInt 1 = (Int32.ofInt 18))] <;> rfl) ?_
  refine x_goto (M := M_X12_count) (tgt := 105) dX12_count_132 (by decide) ?_
  refine x_iload (M := M_X12_count) dX12_count_105 rfl ?_
  refine x_bipush (M := M_X12_count) dX12_count_107 ?_
  refine x_icmp_ge (M := M_X12_count) (tgt := 135) dX12_count_109 (by decide) (fun q => absurd q (by decide +kernel)) (fun _ => ?_)
  refine x_aload_n (M := M_X12_count) dX12_count_112 rfl ?_
  refine x_iload (M := M_X12_count) dX12_count_113 rfl ?_
  refine x_callVR (M := M_X12_count) (M' := M_X12_has) rfl rfl dX12_count_115 m_X12_has t_3033 t_3035 s_197 (q5120 hl o5061 o5066) rfl rfl o5061 rfl (Nat.le_of_ble_eq_true rfl) (Nat.le_of_ble_eq_true rfl) (Nat.le_of_ble_eq_true rfl) (Nat.le_of_ble_eq_true rfl) ?_
  refine x_if_eq (M := M_X12_count) (tgt := 127) dX12_count_118 (by decide) (fun _ => ?_) (fun q => absurd q (by decide +kernel))
  refine x_iload_n (M := M_X12_count) dX12_count_127 rfl ?_
  refine x_istore_n (M := M_X12_count) dX12_count_128 (Nat.le_of_ble_eq_true rfl) rfl ?_
  refine x_iinc (M := M_X12_count) dX12_count_129 rfl (Nat.le_of_ble_eq_true rfl) rfl ?_
  refine x_lvs (M := M_X12_count) (lv' := [some (.ref 277), some (.int a0), some (.int a1), some (.int (Int32.ofInt 0)), some (.int (Int32.ofInt 19))]) (by rw [(by decide +kernel : (Int32.ofInt 18) + Int32.ofInt 1 = (Int32.ofInt 19))] <;> rfl) ?_
  refine x_goto (M := M_X12_count) (tgt := 105) dX12_count_132 (by decide) ?_
  refine x_iload (M := M_X12_count) dX12_count_105 rfl ?_
  refine x_bipush (M := M_X12_count) dX12_count_107 ?_
  refine x_icmp_ge (M := M_X12_count) (tgt := 135) dX12_count_109 (by decide) (fun q => absurd q (by decide +kernel)) (fun _ => ?_)
  refine x_aload_n (M := M_X12_count) dX12_count_112 rfl ?_
  refine x_iload (M := M_X12_count) dX12_count_113 rfl ?_
  refine x_callVR (M := M_X12_count) (M' := M_X12_has) rfl rfl dX12_count_115 m_X12_has t_3033 t_3035 s_197 (q5123 hl o5061 o5066) rfl rfl o5061 rfl (Nat.le_of_ble_eq_true rfl) (Nat.le_of_ble_eq_true rfl) (Nat.le_of_ble_eq_true rfl) (Nat.le_of_ble_eq_true rfl) ?_
  refine x_if_eq (M := M_X12_count) (tgt := 127) dX12_count_118 (by decide) (fun _ => ?_) (fun q => absurd q (by decide +kernel))
  refine x_iload_n (M := M_X12_count) dX12_count_127 rfl ?_
  refine x_istore_n (M := M_X12_count) dX12_count_128 (Nat.le_of_ble_eq_true rfl) rfl ?_
  refine x_iinc (M := M_X12_count) dX12_count_129 rfl (Nat.le_of_ble_eq_true rfl) rfl ?_
  refine x_lvs (M := M_X12_count) (lv' := [some (.ref 277), some (.int a0), some (.int a1), some (.int (Int32.ofInt 0)), some (.int (Int32.ofInt 20))]) (by rw [(by decide +kernel : (Int32.ofInt 19) + Int32.ofInt 1 = (Int32.ofInt 20))] <;> rfl) ?_
  refine x_goto (M := M_X12_count) (tgt := 105) dX12_count_132 (by decide) ?_
  refine x_iload (M := M_X12_count) dX12_count_105 rfl ?_
  refine x_bipush (M := M_X12_count) dX12_count_107 ?_
  refine x_icmp_ge (M := M_X12_count) (tgt := 135) dX12_count_109 (by decide) (fun q => absurd q (by decide +kernel)) (fun _ => ?_)
  refine x_aload_n (M := M_X12_count) dX12_count_112 rfl ?_
  refine x_iload (M := M_X12_count) dX12_count_113 rfl ?_
  refine x_callVR (M := M_X12_count) (M' := M_X12_has) rfl rfl dX12_count_115 m_X12_has t_3033 t_3035 s_197 (q5126 hl o5061 o5066) rfl rfl o5061 rfl (Nat.le_of_ble_eq_true rfl) (Nat.le_of_ble_eq_true rfl) (Nat.le_of_ble_eq_true rfl) (Nat.le_of_ble_eq_true rfl) ?_
  refine x_if_eq (M := M_X12_count) (tgt := 127) dX12_count_118 (by decide) (fun _ => ?_) (fun q => absurd q (by decide +kernel))
  refine x_iload_n (M := M_X12_count) dX12_count_127 rfl ?_
  refine x_istore_n (M := M_X12_count) dX12_count_128 (Nat.le_of_ble_eq_true rfl) rfl ?_
  refine x_iinc (M := M_X12_count) dX12_count_129 rfl (Nat.le_of_ble_eq_true rfl) rfl ?_
  refine x_lvs (M := M_X12_count) (lv' := [some (.ref 277), some (.int a0), some (.int a1), some (.int (Int32.ofInt 0)), some (.int (Int32.ofInt 21))]) (by rw [(by decide +kernel : (Int32.ofInt 20) + Int32.ofInt 1 = (Int32.ofInt 21))] <;> rfl) ?_
  refine x_goto (M := M_X12_count) (tgt := 105) dX12_count_132 (by decide) ?_
  refine x_iload (M := M_X12_count) dX12_count_105 rfl ?_
  refine x_bipush (M := M_X12_count) dX12_count_107 ?_
  refine x_icmp_ge (M := M_X12_count) (tgt := 135) dX12_count_109 (by decide) (fun q => absurd q (by decide +kernel)) (fun _ => ?_)
  refine x_aload_n (M := M_X12_count) dX12_count_112 rfl ?_
  refine x_iload (M := M_X12_count) dX12_count_113 rfl ?_
  refine x_callVR (M := M_X12_count) (M' := M_X12_has) rfl rfl dX12_count_115 m_X12_has t_3033 t_3035 s_197 (q5129 hl o5061 o5066) rfl rfl o5061 rfl (Nat.le_of_ble_eq_true rfl) (Nat.le_of_ble_eq_true rfl) (Nat.le_of_ble_eq_true rfl) (Nat.le_of_ble_eq_true rfl) ?_
  refine x_if_eq (M := M_X12_count) (tgt := 127) dX12_count_118 (by decide) (fun _ => ?_) (fun q => absurd q (by decide +kernel))
  refine x_iload_n (M := M_X12_count) dX12_count_127 rfl ?_
  refine x_istore_n (M := M_X12_count) dX12_count_128 (Nat.le_of_ble_eq_true rfl) rfl ?_
  refine x_iinc (M := M_X12_count) dX12_count_129 rfl (Nat.le_of_ble_eq_true rfl) rfl ?_
  refine x_lvs (M := M_X12_count) (lv' := [some (.ref 277), some (.int a0), some (.int a1), some (.int (Int32.ofInt 0)), some (.int (Int32.ofInt 22))]) (by rw [(by decide +kernel : (Int32.ofInt 21) + Int32.ofInt 1 = (Int32.ofInt 22))] <;> rfl) ?_
  refine x_goto (M := M_X12_count) (tgt := 105) dX12_count_132 (by decide) ?_
  refine x_iload (M := M_X12_count) dX12_count_105 rfl ?_
  refine x_bipush (M := M_X12_count) dX12_count_107 ?_
  refine x_icmp_ge (M := M_X12_count) (tgt := 135) dX12_count_109 (by decide) (fun q => absurd q (by decide +kernel)) (fun _ => ?_)
  refine x_aload_n (M := M_X12_count) dX12_count_112 rfl ?_
  refine x_iload (M := M_X12_count) dX12_count_113 rfl ?_
  refine x_callVR (M := M_X12_count) (M' := M_X12_has) rfl rfl dX12_count_115 m_X12_has t_3033 t_3035 s_197 (q5132 hl o5061 o5066) rfl rfl o5061 rfl (Nat.le_of_ble_eq_true rfl) (Nat.le_of_ble_eq_true rfl) (Nat.le_of_ble_eq_true rfl) (Nat.le_of_ble_eq_true rfl) ?_
  refine x_if_eq (M := M_X12_count) (tgt := 127) dX12_count_118 (by decide) (fun _ => ?_) (fun q => absurd q (by decide +kernel))
  refine x_iload_n (M := M_X12_count) dX12_count_127 rfl ?_
  refine x_istore_n (M := M_X12_count) dX12_count_128 (Nat.le_of_ble_eq_true rfl) rfl ?_
  refine x_lvs (M := M_X12_count) (lv' := [some (.ref 277), some (.int a0), some (.int a1), some (.int (Int32.ofInt 0)), some (.int (Int32.ofInt 22))]) rfl ?_
  refine x_iinc (M := M_X12_count) dX12_count_129 rfl (Nat.le_of_ble_eq_true rfl) rfl ?_
  refine x_lvs (M := M_X12_count) (lv' := [some (.ref 277), some (.int a0), some (.int a1), some (.int (Int32.ofInt 0)), some (.int (Int32.ofInt 23))]) (by rw [(by decide +kernel : (Int32.ofInt 22) + Int32.ofInt 1 = (Int32.ofInt 23))] <;> rfl) ?_
  refine x_goto (M := M_X12_count) (tgt := 105) dX12_count_132 (by decide) ?_
  refine x_iload (M := M_X12_count) dX12_count_105 rfl ?_
  refine x_bipush (M := M_X12_count) dX12_count_107 ?_
  refine x_icmp_ge (M := M_X12_count) (tgt := 135) dX12_count_109 (by decide) (fun q => absurd q (by decide +kernel)) (fun _ => ?_)
  refine x_aload_n (M := M_X12_count) dX12_count_112 rfl ?_
  refine x_iload (M := M_X12_count) dX12_count_113 rfl ?_
  refine x_callVR (M := M_X12_count) (M' := M_X12_has) rfl rfl dX12_count_115 m_X12_has t_3033 t_3035 s_197 (q5135 hl o5061 o5066) rfl rfl o5061 rfl (Nat.le_of_ble_eq_true rfl) (Nat.le_of_ble_eq_true rfl) (Nat.le_of_ble_eq_true rfl) (Nat.le_of_ble_eq_true rfl) ?_
  refine x_if_eq (M := M_X12_count) (tgt := 127) dX12_count_118 (by decide) (fun _ => ?_) (fun q => absurd q (by decide +kernel))
  refine x_iload_n (M := M_X12_count) dX12_count_127 rfl ?_
  refine x_istore_n (M := M_X12_count) dX12_count_128 (Nat.le_of_ble_eq_true rfl) rfl ?_
  refine x_iinc (M := M_X12_count) dX12_count_129 rfl (Nat.le_of_ble_eq_true rfl) rfl ?_
  refine x_lvs (M := M_X12_count) (lv' := [some (.ref 277), some (.int a0), some (.int a1), some (.int (Int32.ofInt 0)), some (.int (Int32.ofInt 24))]) (by rw [(by decide +kernel : (Int32.ofInt 23) + Int32.ofInt 1 = (Int32.ofInt 24))] <;> rfl) ?_
  refine x_goto (M := M_X12_count) (tgt := 105) dX12_count_132 (by decide) ?_
  refine x_iload (M := M_X12_count) dX12_count_105 rfl ?_
  refine x_bipush (M := M_X12_count) dX12_count_107 ?_
  refine x_icmp_ge (M := M_X12_count) (tgt := 135) dX12_count_109 (by decide) (fun q => absurd q (by decide +kernel)) (fun _ => ?_)
  refine x_aload_n (M := M_X12_count) dX12_count_112 rfl ?_
  refine x_iload (M := M_X12_count) dX12_count_113 rfl ?_
  refine x_callVR (M := M_X12_count) (M' := M_X12_has) rfl rfl dX12_count_115 m_X12_has t_3033 t_3035 s_197 (q5138 hl o5061 o5066) rfl rfl o5061 rfl (Nat.le_of_ble_eq_true rfl) (Nat.le_of_ble_eq_true rfl) (Nat.le_of_ble_eq_true rfl) (Nat.le_of_ble_eq_true rfl) ?_
  refine x_if_eq (M := M_X12_count) (tgt := 127) dX12_count_118 (by decide) (fun _ => ?_) (fun q => absurd q (by decide +kernel))
  refine x_iload_n (M := M_X12_count) dX12_count_127 rfl ?_
  refine x_istore_n (M := M_X12_count) dX12_count_128 (Nat.le_of_ble_eq_true rfl) rfl ?_
  refine x_iinc (M := M_X12_count) dX12_count_129 rfl (Nat.le_of_ble_eq_true rfl) rfl ?_
  refine x_lvs (M := M_X12_count) (lv' := [some (.ref 277), some (.int a0), some (.int a1), some (.int (Int32.ofInt 0)), some (.int (Int32.ofInt 25))]) (by rw [(by decide +kernel : (Int32.ofInt 24) + Int32.ofInt 1 = (Int32.ofInt 25))] <;> rfl) ?_
  refine x_goto (M := M_X12_count) (tgt := 105) dX12_count_132 (by decide) ?_
  refine x_iload (M := M_X12_count) dX12_count_105 rfl ?_
  refine x_bipush (M := M_X12_count) dX12_count_107 ?_
  refine x_icmp_ge (M := M_X12_count) (tgt := 135) dX12_count_109 (by decide) (fun q => absurd q (by decide +kernel)) (fun _ => ?_)
  refine x_aload_n (M := M_X12_count) dX12_count_112 rfl ?_
  refine x_iload (M := M_X12_count) dX12_count_113 rfl ?_
  refine x_callVR (M := M_X12_count) (M' := M_X12_has) rfl rfl dX12_count_115 m_X12_has t_3033 t_3035 s_197 (q5141 hl o5061 o5066) rfl rfl o5061 rfl (Nat.le_of_ble_eq_true rfl) (Nat.le_of_ble_eq_true rfl) (Nat.le_of_ble_eq_true rfl) (Nat.le_of_ble_eq_true rfl) ?_
  refine x_if_eq (M := M_X12_count) (tgt := 127) dX12_count_118 (by decide) (fun _ => ?_) (fun q => absurd q (by decide +kernel))
  refine x_iload_n (M := M_X12_count) dX12_count_127 rfl ?_
  refine x_istore_n (M := M_X12_count) dX12_count_128 (Nat.le_of_ble_eq_true rfl) rfl ?_
  refine x_iinc (M := M_X12_count) dX12_count_129 rfl (Nat.le_of_ble_eq_true rfl) rfl ?_
  refine x_lvs (M := M_X12_count) (lv' := [some (.ref 277), some (.int a0), some (.int a1), some (.int (Int32.ofInt 0)), some (.int (Int32.ofInt 26))]) (by rw [(by decide +kernel : (Int32.ofInt 25) + Int32.ofInt 1 = (Int32.ofInt 26))] <;> rfl) ?_
  refine x_goto (M := M_X12_count) (tgt := 105) dX12_count_132 (by decide) ?_
  refine x_iload (M := M_X12_count) dX12_count_105 rfl ?_
  refine x_bipush (M := M_X12_count) dX12_count_107 ?_
  refine x_icmp_ge (M := M_X12_count) (tgt := 135) dX12_count_109 (by decide) (fun q => absurd q (by decide +kernel)) (fun _ => ?_)
  refine x_aload_n (M := M_X12_count) dX12_count_112 rfl ?_
  refine x_iload (M := M_X12_count) dX12_count_113 rfl ?_
  refine x_callVR (M := M_X12_count) (M' := M_X12_has) rfl rfl dX12_count_115 m_X12_has t_3033 t_3035 s_197 (q5144 hl o5061 o5066) rfl rfl o5061 rfl (Nat.le_of_ble_eq_true rfl) (Nat.le_of_ble_eq_true rfl) (Nat.le_of_ble_eq_true rfl) (Nat.le_of_ble_eq_true rfl) ?_
  refine x_if_eq (M := M_X12_count) (tgt := 127) dX12_count_118 (by decide) (fun _ => ?_) (fun q => absurd q (by decide +kernel))
  refine x_iload_n (M := M_X12_count) dX12_count_127 rfl ?_
  refine x_istore_n (M := M_X12_count) dX12_count_128 (Nat.le_of_ble_eq_true rfl) rfl ?_
  refine x_iinc (M := M_X12_count) dX12_count_129 rfl (Nat.le_of_ble_eq_true rfl) rfl ?_
  refine x_lvs (M := M_X12_count) (lv' := [some (.ref 277), some (.int a0), some (.int a1), some (.int (Int32.ofInt 0)), some (.int (Int32.ofInt 27))]) (by rw [(by decide +kernel : (Int32.ofInt 26) + Int32.ofInt 1 = (Int32.ofInt 27))] <;> rfl) ?_
  refine x_goto (M := M_X12_count) (tgt := 105) dX12_count_132 (by decide) ?_
  refine x_iload (M := M_X12_count) dX12_count_105 rfl ?_
  refine x_bipush (M := M_X12_count) dX12_count_107 ?_
  refine x_icmp_ge (M := M_X12_count) (tgt := 135) dX12_count_109 (by decide) (fun q => absurd q (by decide +kernel)) (fun _ => ?_)
  refine x_aload_n (M := M_X12_count) dX12_count_112 rfl ?_
  refine x_iload (M := M_X12_count) dX12_count_113 rfl ?_
  refine x_callVR (M := M_X12_count) (M' := M_X12_has) rfl rfl dX12_count_115 m_X12_has t_3033 t_3035 s_197 (q5147 hl o5061 o5066) rfl rfl o5061 rfl (Nat.le_of_ble_eq_true rfl) (Nat.le_of_ble_eq_true rfl) (Nat.le_of_ble_eq_true rfl) (Nat.le_of_ble_eq_true rfl) ?_
  refine x_if_eq (M := M_X12_count) (tgt := 127) dX12_count_118 (by decide) (fun _ => ?_) (fun q => absurd q (by decide +kernel))
  refine x_iload_n (M := M_X12_count) dX12_count_127 rfl ?_
  refine x_istore_n (M := M_X12_count) dX12_count_128 (Nat.le_of_ble_eq_true rfl) rfl ?_
  refine x_lvs (M := M_X12_count) (lv' := [some (.ref 277), some (.int a0), some (.int a1), some (.int (Int32.ofInt 0)), some (.int (Int32.ofInt 27))]) rfl ?_
  refine x_iinc (M := M_X12_count) dX12_count_129 rfl (Nat.le_of_ble_eq_true rfl) rfl ?_
  refine x_lvs (M := M_X12_count) (lv' := [some (.ref 277), some (.int a0), some (.int a1), some (.int (Int32.ofInt 0)), some (.int (Int32.ofInt 28))]) (by rw [(by decide +kernel : (Int32.ofInt 27) + Int32.ofInt 1 = (Int32.ofInt 28))] <;> rfl) ?_
  refine x_goto (M := M_X12_count) (tgt := 105) dX12_count_132 (by decide) ?_
  refine x_iload (M := M_X12_count) dX12_count_105 rfl ?_
  refine x_bipush (M := M_X12_count) dX12_count_107 ?_
  refine x_icmp_ge (M := M_X12_count) (tgt := 135) dX12_count_109 (by decide) (fun q => absurd q (by decide +kernel)) (fun _ => ?_)
  refine x_aload_n (M := M_X12_count) dX12_count_112 rfl ?_
  refine x_iload (M := M_X12_count) dX12_count_113 rfl ?_
  refine x_callVR (M := M_X12_count) (M' := M_X12_has) rfl rfl dX12_count_115 m_X12_has t_3033 t_3035 s_197 (q5150 hl o5061 o5066) rfl rfl o5061 rfl (Nat.le_of_ble_eq_true rfl) (Nat.le_of_ble_eq_true rfl) (Nat.le_of_ble_eq_true rfl) (Nat.le_of_ble_eq_true rfl) ?_
  refine x_if_eq (M := M_X12_count) (tgt := 127) dX12_count_118 (by decide) (fun _ => ?_) (fun q => absurd q (by decide +kernel))
  refine x_iload_n (M := M_X12_count) dX12_count_127 rfl ?_
  refine x_istore_n (M := M_X12_count) dX12_count_128 (Nat.le_of_ble_eq_true rfl) rfl ?_
  refine x_iinc (M := M_X12_count) dX12_count_129 rfl (Nat.le_of_ble_eq_true rfl) rfl ?_
  refine x_lvs (M := M_X12_count) (lv' := [some (.ref 277), some (.int a0), some (.int a1), some (.int (Int32.ofInt 0)), some (.int (Int32.ofInt 29))]) (by rw [(by decide +kernel : (Int32.ofInt 28) + Int32.ofInt 1 = (Int32.ofInt 29))] <;> rfl) ?_
  refine x_goto (M := M_X12_count) (tgt := 105) dX12_count_132 (by decide) ?_
  refine x_iload (M := M_X12_count) dX12_count_105 rfl ?_
  refine x_bipush (M := M_X12_count) dX12_count_107 ?_
  refine x_icmp_ge (M := M_X12_count) (tgt := 135) dX12_count_109 (by decide) (fun q => absurd q (by decide +kernel)) (fun _ => ?_)
  refine x_aload_n (M := M_X12_count) dX12_count_112 rfl ?_
  refine x_iload (M := M_X12_count) dX12_count_113 rfl ?_
  refine x_callVR (M := M_X12_count) (M' := M_X12_has) rfl rfl dX12_count_115 m_X12_has t_3033 t_3035 s_197 (q5153 hl o5061 o5066) rfl rfl o5061 rfl (Nat.le_of_ble_eq_true rfl) (Nat.le_of_ble_eq_true rfl) (Nat.le_of_ble_eq_true rfl) (Nat.le_of_ble_eq_true rfl) ?_
  refine x_if_eq (M := M_X12_count) (tgt := 127) dX12_count_118 (by decide) (fun _ => ?_) (fun q => absurd q (by decide +kernel))
  refine x_iload_n (M := M_X12_count) dX12_count_127 rfl ?_
  refine x_istore_n (M := M_X12_count) dX12_count_128 (Nat.le_of_ble_eq_true rfl) rfl ?_
  refine x_iinc (M := M_X12_count) dX12_count_129 rfl (Nat.le_of_ble_eq_true rfl) rfl ?_
  refine x_lvs (M := M_X12_count) (lv' := [some (.ref 277), some (.int a0), some (.int a1), some (.int (Int32.ofInt 0)), some (.int (Int32.ofInt 30))]) (by rw [(by decide +kernel : (Int32.ofInt 29) + Int32.ofInt 1 = (Int32.ofInt 30))] <;> rfl) ?_
  refine x_goto (M := M_X12_count) (tgt := 105) dX12_count_132 (by decide) ?_
  refine x_iload (M := M_X12_count) dX12_count_105 rfl ?_
  refine x_bipush (M := M_X12_count) dX12_count_107 ?_
  refine x_icmp_ge (M := M_X12_count) (tgt := 135) dX12_count_109 (by decide) (fun q => absurd q (by decide +kernel)) (fun _ => ?_)
  refine x_aload_n (M := M_X12_count) dX12_count_112 rfl ?_
  refine x_iload (M := M_X12_count) dX12_count_113 rfl ?_
  refine x_callVR (M := M_X12_count) (M' := M_X12_has) rfl rfl dX12_count_115 m_X12_has t_3033 t_3035 s_197 (q5156 hl o5061 o5066) rfl rfl o5061 rfl (Nat.le_of_ble_eq_true rfl) (Nat.le_of_ble_eq_true rfl) (Nat.le_of_ble_eq_true rfl) (Nat.le_of_ble_eq_true rfl) ?_
  refine x_if_eq (M := M_X12_count) (tgt := 127) dX12_count_118 (by decide) (fun _ => ?_) (fun q => absurd q (by decide +kernel))
  refine x_iload_n (M := M_X12_count) dX12_count_127 rfl ?_
  refine x_istore_n (M := M_X12_count) dX12_count_128 (Nat.le_of_ble_eq_true rfl) rfl ?_
  refine x_iinc (M := M_X12_count) dX12_count_129 rfl (Nat.le_of_ble_eq_true rfl) rfl ?_
  refine x_lvs (M := M_X12_count) (lv' := [some (.ref 277), some (.int a0), some (.int a1), some (.int (Int32.ofInt 0)), some (.int (Int32.ofInt 31))]) (by rw [(by decide +kernel : (Int32.ofInt 30) + Int32.ofInt 1 = (Int32.ofInt 31))] <;> rfl) ?_
  refine x_goto (M := M_X12_count) (tgt := 105) dX12_count_132 (by decide) ?_
  refine x_iload (M := M_X12_count) dX12_count_105 rfl ?_
  refine x_bipush (M := M_X12_count) dX12_count_107 ?_
  refine x_icmp_ge (M := M_X12_count) (tgt := 135) dX12_count_109 (by decide) (fun q => absurd q (by decide +kernel)) (fun _ => ?_)
  refine x_aload_n (M := M_X12_count) dX12_count_112 rfl ?_
  refine x_iload (M := M_X12_count) dX12_count_113 rfl ?_
  refine x_callVR (M := M_X12_count) (M' := M_X12_has) rfl rfl dX12_count_115 m_X12_has t_3033 t_3035 s_197 (q5159 hl o5061 o5066) rfl rfl o5061 rfl (Nat.le_of_ble_eq_true rfl) (Nat.le_of_ble_eq_true rfl) (Nat.le_of_ble_eq_true rfl) (Nat.le_of_ble_eq_true rfl) ?_
  refine x_if_eq (M := M_X12_count) (tgt := 127) dX12_count_118 (by decide) (fun _ => ?_) (fun q => absurd q (by decide +kernel))
  refine x_iload_n (M := M_X12_count) dX12_count_127 rfl ?_
  refine x_istore_n (M := M_X12_count) dX12_count_128 (Nat.le_of_ble_eq_true rfl) rfl ?_
  refine x_iinc (M := M_X12_count) dX12_count_129 rfl (Nat.le_of_ble_eq_true rfl) rfl ?_
  refine x_lvs (M := M_X12_count) (lv' := [some (.ref 277), some (.int a0), some (.int a1), some (.int (Int32.ofInt 0)), some (.int (Int32.ofInt 32))]) (by rw [(by decide +kernel : (Int32.ofInt 31) + Int32.ofInt 1 = (Int32.ofInt 32))] <;> rfl) ?_
  refine x_goto (M := M_X12_count) (tgt := 105) dX12_count_132 (by decide) ?_
  refine x_iload (M := M_X12_count) dX12_count_105 rfl ?_
  refine x_bipush (M := M_X12_count) dX12_count_107 ?_
  refine x_icmp_ge (M := M_X12_count) (tgt := 135) dX12_count_109 (by decide) (fun _ => ?_) (fun q => absurd q (by decide +kernel))
  refine x_iload_n (M := M_X12_count) dX12_count_135 rfl ?_
  exact x_iret (M := M_X12_count) dX12_count_136 rfl ⟨rfl, (fr_tr f5059 (by decide) (fr_tr f5056 (by decide) fr_rf)), ⟨o5061, trivial⟩⟩ (Nat.le_of_ble_eq_true rfl) (Nat.le_of_ble_eq_true rfl)
set_option maxRecDepth 10000 in
theorem lc28_7 {l : Launch} {E : EE} (hl : l.stackTraces = false) (nm : String) {xs : Nat → Int32} (hx : E.2.2.2.2 0 = some (7, xs)) {h : HP} {a0 : Int32} {a1 : Int32} {dg : Int32} (e2 : xs 2 = a0) (e3 : xs 3 = a1) (c0 : ¬ (a0.toInt < 0)) (c1 : a0.toInt < 32) (c2 : ¬ (a1.toInt < 0)) (c3 : ¬ (5 < a1.toInt)) (c4 : ¬ (a1.toInt = 0)) (c5 : ¬ (a1.toInt = 1)) (c6 : ¬ (a1.toInt = 2)) (c7 : ¬ (a1.toInt = 3)) (c8 : a1.toInt = 4) (o5014 : ob h 32 = some (.inr (14, [.ref 33, .ref 162, .ref 166, .int (0 : Int32), .int (0 : Int32), .int (0 : Int32), .ref 167, .ref 170, .ref 173, .ref 177, .ref 193, .ref 208, .ref 222, .ref 238, .ref 252, .ref 274, .ref 275, .ref 276, .int (0 : Int32)]))) (o5015 : ob h 33 = some (.inl (4, 32, .inr (.inr (.inr (.inr (shf 1 32))))))) (o5016 : ob h 34 = some (.inr (9, [.ref 35, .ref 36, .ref 37, .int (0 : Int32), .int (0 : Int32)]))) (o5017 : ob h 38 = some (.inr (9, [.ref 39, .ref 40, .ref 41, .int (0 : Int32), .int (0 : Int32)]))) (o5018 : ob h 42 = some (.inr (9, [.ref 43, .ref 44, .ref 45, .int (0 : Int32), .int (0 : Int32)]))) (o5019 : ob h 46 = some (.inr (9, [.ref 47, .ref 48, .ref 49, .int (0 : Int32), .int (0 : Int32)]))) (o5020 : ob h 50 = some (.inr (9, [.ref 51, .ref 52, .ref 53, .int (0 : Int32), .int (0 : Int32)]))) (o5021 : ob h 54 = some (.inr (9, [.ref 55, .ref 56, .ref 57, .int (0 : Int32), .int (0 : Int32)]))) (o5022 : ob h 58 = some (.inr (9, [.ref 59, .ref 60, .ref 61, .int (0 : Int32), .int (0 : Int32)]))) (o5023 : ob h 62 = some (.inr (9, [.ref 63, .ref 64, .ref 65, .int (0 : Int32), .int (0 : Int32)]))) (o5024 : ob h 66 = some (.inr (9, [.ref 67, .ref 68, .ref 69, .int (0 : Int32), .int (0 : Int32)]))) (o5025 : ob h 70 = some (.inr (9, [.ref 71, .ref 72, .ref 73, .int (0 : Int32), .int (0 : Int32)]))) (o5026 : ob h 74 = some (.inr (9, [.ref 75, .ref 76, .ref 77, .int (0 : Int32), .int (0 : Int32)]))) (o5027 : ob h 78 = some (.inr (9, [.ref 79, .ref 80, .ref 81, .int (0 : Int32), .int (0 : Int32)]))) (o5028 : ob h 82 = some (.inr (9, [.ref 83, .ref 84, .ref 85, .int (0 : Int32), .int (0 : Int32)]))) (o5029 : ob h 86 = some (.inr (9, [.ref 87, .ref 88, .ref 89, .int (0 : Int32), .int (0 : Int32)]))) (o5030 : ob h 90 = some (.inr (9, [.ref 91, .ref 92, .ref 93, .int (0 : Int32), .int (0 : Int32)]))) (o5031 : ob h 94 = some (.inr (9, [.ref 95, .ref 96, .ref 97, .int (0 : Int32), .int (0 : Int32)]))) (o5032 : ob h 98 = some (.inr (9, [.ref 99, .ref 100, .ref 101, .int (0 : Int32), .int (0 : Int32)]))) (o5033 : ob h 102 = some (.inr (9, [.ref 103, .ref 104, .ref 105, .int (0 : Int32), .int (0 : Int32)]))) (o5034 : ob h 106 = some (.inr (9, [.ref 107, .ref 108, .ref 109, .int (0 : Int32), .int (0 : Int32)]))) (o5035 : ob h 110 = some (.inr (9, [.ref 111, .ref 112, .ref 113, .int (0 : Int32), .int (0 : Int32)]))) (o5036 : ob h 114 = some (.inr (9, [.ref 115, .ref 116, .ref 117, .int (0 : Int32), .int (0 : Int32)]))) (o5037 : ob h 118 = some (.inr (9, [.ref 119, .ref 120, .ref 121, .int (0 : Int32), .int (0 : Int32)]))) (o5038 : ob h 122 = some (.inr (9, [.ref 123, .ref 124, .ref 125, .int (0 : Int32), .int (0 : Int32)]))) (o5039 : ob h 126 = some (.inr (9, [.ref 127, .ref 128, .ref 129, .int (0 : Int32), .int (0 : Int32)]))) (o5040 : ob h 130 = some (.inr (9, [.ref 131, .ref 132, .ref 133, .int (0 : Int32), .int (0 : Int32)]))) (o5041 : ob h 134 = some (.inr (9, [.ref 135, .ref 136, .ref 137, .int (0 : Int32), .int (0 : Int32)]))) (o5042 : ob h 138 = some (.inr (9, [.ref 139, .ref 140, .ref 141, .int (0 : Int32), .int (0 : Int32)]))) (o5043 : ob h 142 = some (.inr (9, [.ref 143, .ref 144, .ref 145, .int (0 : Int32), .int (0 : Int32)]))) (o5044 : ob h 146 = some (.inr (9, [.ref 147, .ref 148, .ref 149, .int (0 : Int32), .int (0 : Int32)]))) (o5045 : ob h 150 = some (.inr (9, [.ref 151, .ref 152, .ref 153, .int (0 : Int32), .int (0 : Int32)]))) (o5046 : ob h 154 = some (.inr (9, [.ref 155, .ref 156, .ref 157, .int (0 : Int32), .int (0 : Int32)]))) (o5047 : ob h 158 = some (.inr (9, [.ref 159, .ref 160, .ref 161, .int (0 : Int32), .int (0 : Int32)]))) (o5048 : ob h 359 = some (.inl (1, 1, .inr (.inl (fun _ => 0))))) (o5161 : ob h 277 = some (.inr (15, (RB dg)))) (o5163 : ob h 280 = some (.inl (0, 33, .inl (fun _ => 0)))) : XX l E (M_law nm) 1312 342628 8074320 (fun o _ => o = .inl (some (.int 1))) 2085 [some (.ref 0), some (.ref 32), some (.ref 277), some (.ref 359), some (.int (Int32.ofInt 1)), none, none, none] [] h 328 2463747 := by
  refine x_aload_n (M := (M_law nm)) dL_law_2085 rfl ?_
  refine x_aload_n (M := (M_law nm)) dL_law_2086 rfl ?_
  refine x_iload (M := (M_law nm)) dL_law_2087 rfl ?_
  refine x_iconst (M := (M_law nm)) dL_law_2089 ?_
  refine x_iadd (M := (M_law nm)) dL_law_2090 ?_
  refine x_sald (M := (M_law nm)) dL_law_2091 (by decide) hx (vp_inD (by decide +kernel)) ?_
  refine x_top (M := (M_law nm)) (y := a0) ((congrArg xs (by decide +kernel : ((Int32.ofInt 1) + (Int32.ofInt 1)).toNatClampNeg = 2)).trans e2) ?_
  refine x_aload_n (M := (M_law nm)) dL_law_2092 rfl ?_
  refine x_iload (M := (M_law nm)) dL_law_2093 rfl ?_
  refine x_iconst (M := (M_law nm)) dL_law_2095 ?_
  refine x_iadd (M := (M_law nm)) dL_law_2096 ?_
  refine x_sald (M := (M_law nm)) dL_law_2097 (by decide) hx (vp_inD (by decide +kernel)) ?_
  refine x_top (M := (M_law nm)) (y := a1) ((congrArg xs (by decide +kernel : ((Int32.ofInt 1) + (Int32.ofInt 2)).toNatClampNeg = 3)).trans e3) ?_
  refine x_aload_n (M := (M_law nm)) dL_law_2098 rfl ?_
  refine y_callSW (M := (M_law nm)) (M' := M_L_count) rfl rfl dL_law_2099 m_L_count t_2291 t_2292 (q5013 hl c0 c1 c2 c3 c4 c5 c6 c7 c8 o5014 o5015 o5016 o5017 o5018 o5019 o5020 o5021 o5022 o5023 o5024 o5025 o5026 o5027 o5028 o5029 o5030 o5031 o5032 o5033 o5034 o5035 o5036 o5037 o5038 o5039 o5040 o5041 o5042 o5043 o5044 o5045 o5046 o5047 o5048) rfl rfl (Nat.le_of_ble_eq_true rfl) (Nat.le_of_ble_eq_true rfl) (Nat.le_of_ble_eq_true rfl) (Nat.le_of_ble_eq_true rfl) (fun h5049 f5050 w5051 => ?_)
  obtain ⟨o5052, -⟩ := w5051
  refine x_istore (M := (M_law nm)) dL_law_2102 (Nat.le_of_ble_eq_true rfl) rfl ?_
  refine x_aload_n (M := (M_law nm)) dL_law_2104 rfl ?_
  refine x_aload_n (M := (M_law nm)) dL_law_2105 rfl ?_
  refine x_iload (M := (M_law nm)) dL_law_2106 rfl ?_
  refine x_iconst (M := (M_law nm)) dL_law_2108 ?_
  refine x_iadd (M := (M_law nm)) dL_law_2109 ?_
  refine x_sald (M := (M_law nm)) dL_law_2110 (by decide) hx (vp_inD (by decide +kernel)) ?_
  refine x_top (M := (M_law nm)) (y := a0) ((congrArg xs (by decide +kernel : ((Int32.ofInt 1) + (Int32.ofInt 1)).toNatClampNeg = 2)).trans e2) ?_
  refine x_aload_n (M := (M_law nm)) dL_law_2111 rfl ?_
  refine x_iload (M := (M_law nm)) dL_law_2112 rfl ?_
  refine x_iconst (M := (M_law nm)) dL_law_2114 ?_
  refine x_iadd (M := (M_law nm)) dL_law_2115 ?_
  refine x_sald (M := (M_law nm)) dL_law_2116 (by decide) hx (vp_inD (by decide +kernel)) ?_
  refine x_top (M := (M_law nm)) (y := a1) ((congrArg xs (by decide +kernel : ((Int32.ofInt 1) + (Int32.ofInt 2)).toNatClampNeg = 3)).trans e3) ?_
  have o5162 := (f5050 277 _ (by decide) o5161)
  have o5164 := (f5050 280 _ (by decide) o5163)
  refine y_callVR (M := (M_law nm)) (M' := M_X12_count) rfl rfl dL_law_2117 m_X12_count t_3114 t_3115 t_3116 (q5160 hl c0 c1 c2 c3 c4 c5 c6 c7 c8 o5162 o5164) rfl rfl o5162 rfl (Nat.le_of_ble_eq_true rfl) (Nat.le_of_ble_eq_true rfl) (Nat.le_of_ble_eq_true rfl) (Nat.le_of_ble_eq_true rfl) (fun h5165 f5166 w5167 => ?_)
  obtain ⟨o5168, -⟩ := w5167
  refine x_istore (M := (M_law nm)) dL_law_2120 (Nat.le_of_ble_eq_true rfl) rfl ?_
  refine x_aload_n (M := (M_law nm)) dL_law_2122 rfl ?_
  refine x_callVR (M := (M_law nm)) (M' := M_X12_thrown) rfl rfl dL_law_2123 m_X12_thrown t_2797 t_2798 t_2799 (q254 hl o5168) rfl rfl o5168 rfl (Nat.le_of_ble_eq_true rfl) (Nat.le_of_ble_eq_true rfl) (Nat.le_of_ble_eq_true rfl) (Nat.le_of_ble_eq_true rfl) ?_
  refine x_iload (M := (M_law nm)) dL_law_2126 rfl ?_
  refine x_icmp_eq (M := (M_law nm)) (tgt := 2133) dL_law_2128 (by decide) (fun _ => ?_) (fun q => absurd q (by decide +kernel))
  refine x_iload (M := (M_law nm)) dL_law_2133 rfl ?_
  refine x_if_ne (M := (M_law nm)) (tgt := 2150) dL_law_2135 (by decide) (fun q => absurd q (by decide +kernel)) (fun _ => ?_)
  refine x_aload_n (M := (M_law nm)) dL_law_2138 rfl ?_
  refine x_iconst (M := (M_law nm)) dL_law_2139 ?_
  have o5169 := (f5166 359 _ (by decide) o5052)
  refine x_lald (M := (M_law nm)) dL_law_2140 o5169 (vp_inD (by decide +kernel)) ?_
  refine x_topl (M := (M_law nm)) (y := (Int64.ofInt 0)) (by decide +kernel) ?_
  refine x_iload (M := (M_law nm)) dL_law_2141 rfl ?_
  refine x_i2l (M := (M_law nm)) dL_law_2143 ?_
  refine x_lcmp (M := (M_law nm)) dL_law_2144 ?_
  refine x_if_eq (M := (M_law nm)) (tgt := 2150) dL_law_2145 (by decide) (fun _ => ?_) (fun q => absurd q (by decide +kernel))
  refine x_goto (M := (M_law nm)) (tgt := 2449) dL_law_2150 (by decide) ?_
  refine x_iinc (M := (M_law nm)) dL_law_2449 rfl (Nat.le_of_ble_eq_true rfl) rfl ?_
  refine x_lvs (M := (M_law nm)) (lv' := [some (.ref 0), some (.ref 32), some (.ref 277), some (.ref 359), some (.int (Int32.ofInt 7)), some (.int (Int32.ofInt 0)), some (.int (Int32.ofInt 0)), none]) (by rw [(by decide +kernel : (Int32.ofInt 1) + Int32.ofInt 6 = (Int32.ofInt 7))] <;> rfl) ?_
  refine x_goto (M := (M_law nm)) (tgt := 33) dL_law_2452 (by decide) ?_
  refine x_iload (M := (M_law nm)) dL_law_33 rfl ?_
  refine x_aload_n (M := (M_law nm)) dL_law_35 rfl ?_
  refine x_slen (M := (M_law nm)) dL_law_36 (by decide) hx ?_
  refine x_bipush (M := (M_law nm)) dL_law_37 ?_
  refine x_isub (M := (M_law nm)) dL_law_39 ?_
  refine x_icmp_gt (M := (M_law nm)) (tgt := 2455) dL_law_40 (by decide) (fun _ => ?_) (fun q => absurd q (by decide +kernel))
  refine x_iconst (M := (M_law nm)) dL_law_2455 ?_
  exact x_zret (M := (M_law nm)) dL_law_2456 rfl (by decide) rfl (Nat.le_of_ble_eq_true rfl) (Nat.le_of_ble_eq_true rfl)
set_option maxRecDepth 10000 in
theorem q5172 {l : Launch} {E : EE} (hl : l.stackTraces = false) {h : HP} {a0 : Int32} {a1 : Int32} (c0 : ¬ (a0.toInt < 0)) (c1 : a0.toInt < 32) (c2 : ¬ (a1.toInt < 0)) (c3 : ¬ (5 < a1.toInt)) (c4 : ¬ (a1.toInt = 0)) (c5 : ¬ (a1.toInt = 1)) (c6 : ¬ (a1.toInt = 2)) (c7 : ¬ (a1.toInt = 3)) (c8 : ¬ (a1.toInt = 4)) (o5170 : ob h 32 = some (.inr (14, [.ref 33, .ref 162, .ref 166, .int (0 : Int32), .int (0 : Int32), .int (0 : Int32), .ref 167, .ref 170, .ref 173, .ref 177, .ref 193, .ref 208, .ref 222, .ref 238, .ref 252, .ref 274, .ref 275, .ref 276, .int (0 : Int32)]))) (o5171 : ob h 33 = some (.inl (4, 32, .inr (.inr (.inr (.inr (shf 1 32))))))) : en_C l E M_X11_count 1 0 0 [.ref 32, .int a0, .int a1] h (pR (some (.int (Int32.ofInt 0))) h) := by
  refine en_mk m_X11_count rfl hl (Nat.le_of_ble_eq_true rfl) ?_
  refine x_aload_n (M := M_X11_count) dX11_count_0 rfl ?_
  refine x_iload_n (M := M_X11_count) dX11_count_1 rfl ?_
  refine x_callVR (M := M_X11_count) (M' := M_X11_slotNumbered) rfl rfl dX11_count_2 m_X11_slotNumbered t_744 t_746 s_2 (q425 hl c0 c1 o5170 o5171) rfl rfl o5170 rfl (Nat.le_of_ble_eq_true rfl) (Nat.le_of_ble_eq_true rfl) (Nat.le_of_ble_eq_true rfl) (Nat.le_of_ble_eq_true rfl) ?_
  refine x_astore_n (M := M_X11_count) dX11_count_5 (Nat.le_of_ble_eq_true rfl) rfl ?_
  refine x_iload_n (M := M_X11_count) dX11_count_6 rfl ?_
  refine x_tabIn (M := M_X11_count) (tgt := 72) (off := 65) dX11_count_7 (by have e9 : a1.toInt = 5 := (by have e8 : a1.toInt = a1.toInt := rfl; omega); rw [e9] <;> decide) (by have e9 : a1.toInt = 5 := (by have e8 : a1.toInt = a1.toInt := rfl; omega); rw [e9] <;> decide) (by have e9 : a1.toInt = 5 := (by have e8 : a1.toInt = a1.toInt := rfl; omega); rw [e9] <;> rfl) (by decide) ?_
  refine x_aload_n (M := M_X11_count) dX11_count_72 rfl ?_
  refine x_getf (M := M_X11_count) (ci := 14) (C := RX11) (T := TX11) (N := 19) (ty := tyX11) cl14 dX11_count_73 o5170 18 (by decide) t_581 (v := .int (0 : Int32)) rfl ?_
  refine x_top (M := M_X11_count) (y := (Int32.ofInt 0)) (by decide +kernel) ?_
  exact x_iret (M := M_X11_count) dX11_count_76 rfl ⟨rfl, rfl⟩ (Nat.le_of_ble_eq_true rfl) (Nat.le_of_ble_eq_true rfl)
set_option maxRecDepth 10000 in
theorem q5184 {l : Launch} {E : EE} (hl : l.stackTraces = false) {h : HP} {a0 : Int32} {a1 : Int32} (c0 : ¬ (a0.toInt < 0)) (c1 : a0.toInt < 32) (c2 : ¬ (a1.toInt < 0)) (c3 : ¬ (5 < a1.toInt)) (c4 : ¬ (a1.toInt = 0)) (c5 : ¬ (a1.toInt = 1)) (c6 : ¬ (a1.toInt = 2)) (c7 : ¬ (a1.toInt = 3)) (c8 : ¬ (a1.toInt = 4)) (o5173 : ob h 32 = some (.inr (14, [.ref 33, .ref 162, .ref 166, .int (0 : Int32), .int (0 : Int32), .int (0 : Int32), .ref 167, .ref 170, .ref 173, .ref 177, .ref 193, .ref 208, .ref 222, .ref 238, .ref 252, .ref 274, .ref 275, .ref 276, .int (0 : Int32)]))) (o5174 : ob h 33 = some (.inl (4, 32, .inr (.inr (.inr (.inr (shf 1 32))))))) (o5179 : ob h 359 = some (.inl (1, 1, .inr (.inl (fun _ => 0))))) : en_C l E M_L_count 2 0 0 [.ref 32, .int a0, .int a1, .ref 359] h (pF (some (.int (Int32.ofInt 0))) [359] h (fun h' => ob h' 359 = some (.inl (1, 1, .inr (.inl (fun _ => 0)))) ∧ True)) := by
  refine en_mkW m_L_count rfl hl (Nat.le_of_ble_eq_true rfl) ?_
  refine x_aload_n (M := M_L_count) dL_count_0 rfl ?_
  refine x_iconst (M := M_L_count) dL_count_1 ?_
  refine x_aload_n (M := M_L_count) dL_count_2 rfl ?_
  refine x_iload_n (M := M_L_count) dL_count_3 rfl ?_
  refine x_iload_n (M := M_L_count) dL_count_4 rfl ?_
  refine x_callVH (M := M_L_count) (M' := M_X11_count) rfl dL_count_5 m_X11_count t_2294 t_2295 t_2296 o5173 rfl [.int a0, .int a1] rfl rfl (Nat.le_of_ble_eq_true rfl) (q5172 hl c0 c1 c2 c3 c4 c5 c6 c7 c8 o5173 o5174) (Nat.le_of_ble_eq_true rfl) (Nat.le_of_ble_eq_true rfl) (Nat.le_of_ble_eq_true rfl) (fun N h' hp => nomatch hp.1) (fun v h' hp => ?_)
  obtain ⟨e5178, rfl⟩ := hp
  cases e5178
  refine x_i2l (M := M_L_count) dL_count_8 ?_
  refine x_norm (M := M_L_count) (st' := [.long (Int64.ofInt 0), .int (Int32.ofInt 0), .ref 359]) rfl (vj_cons (by decide +kernel : ((Int32.ofInt 0).toInt64) = (Int64.ofInt 0)) rfl) rfl rfl rfl ?_
  refine y_last (M := M_L_count) (k := 0) dL_count_9 o5179 (vp_inD (by decide +kernel)) (by decide +kernel) (fun h5180 w5181 f5182 => ?_)
  have w5183 : ob h5180 359 = some (.inl (1, 1, .inr (.inl (fun _ => 0)))) := by rw [w5181, uq_z (k := 0)]
  refine x_goto (M := M_L_count) (tgt := 17) dL_count_10 (by decide) ?_
  refine x_iconst (M := M_L_count) dL_count_17 ?_
  exact x_iret (M := M_L_count) dL_count_18 rfl ⟨rfl, (fr_tr f5182 (by decide) fr_rf), ⟨w5183, trivial⟩⟩ (Nat.le_of_ble_eq_true rfl) (Nat.le_of_ble_eq_true rfl)
set_option maxRecDepth 10000 in
theorem q5196 {l : Launch} {E : EE} (hl : l.stackTraces = false) {h : HP} {a1 : Int32} (c0 : ¬ (a1.toInt < 0)) (c1 : ¬ (5 < a1.toInt)) (c2 : ¬ (a1.toInt = 0)) (c3 : ¬ (a1.toInt = 1)) (c4 : ¬ (a1.toInt = 2)) (c5 : ¬ (a1.toInt = 3)) (c6 : ¬ (a1.toInt = 4)) : en_C l E M_X12_in 0 0 0 [.long (a1.toInt64), .long (Int64.ofInt 0), .long (Int64.ofInt 5)] h (pR (some (.int (Int32.ofInt 1))) h) := by
  refine en_mk m_X12_in rfl hl (Nat.le_of_ble_eq_true rfl) ?_
  refine x_lload_n (M := M_X12_in) dX12_in_0 rfl ?_
  refine x_lload_n (M := M_X12_in) dX12_in_1 rfl ?_
  refine x_lcmp (M := M_X12_in) dX12_in_2 ?_
  refine x_if_lt (M := M_X12_in) (tgt := 17) dX12_in_3 (by decide) (fun q => absurd ((bc_lt (i_i2l rfl) (by decide +kernel)).mp q) (by omega : ¬ (a1.toInt < 0))) (fun _ => ?_)
  refine x_lload_n (M := M_X12_in) dX12_in_6 rfl ?_
  refine x_lload (M := M_X12_in) dX12_in_7 rfl ?_
  refine x_lcmp (M := M_X12_in) dX12_in_9 ?_
  refine x_if_gt (M := M_X12_in) (tgt := 17) dX12_in_10 (by decide) (fun q => absurd ((bc_gt (i_i2l rfl) (by decide +kernel)).mp q) (by omega : ¬ (5 < a1.toInt))) (fun _ => ?_)
  refine x_iconst (M := M_X12_in) dX12_in_13 ?_
  refine x_goto (M := M_X12_in) (tgt := 18) dX12_in_14 (by decide) ?_
  exact x_zret (M := M_X12_in) dX12_in_18 rfl (by decide) ⟨rfl, rfl⟩ (Nat.le_of_ble_eq_true rfl) (Nat.le_of_ble_eq_true rfl)
set_option maxRecDepth 10000 in
theorem q5216 {l : Launch} {E : EE} (hl : l.stackTraces = false) {h : HP} {a0 : Int32} {a1 : Int32} {dg : Int32} (c0 : ¬ (a0.toInt < 0)) (c1 : a0.toInt < 32) (c2 : ¬ (a1.toInt < 0)) (c3 : ¬ (5 < a1.toInt)) (c4 : ¬ (a1.toInt = 0)) (c5 : ¬ (a1.toInt = 1)) (c6 : ¬ (a1.toInt = 2)) (c7 : ¬ (a1.toInt = 3)) (c8 : ¬ (a1.toInt = 4)) (c9 : 4 < a1.toInt) (o5208 : ob h 277 = some (.inr (15, (RB dg)))) : en_C l E M_X12_count 1 0 0 [.ref 277, .int a0, .int a1] h (pF (some (.int (Int32.ofInt 0))) [277] h (fun h' => ob h' 277 = some (.inr (15, ((RB dg).set 0 (.int (Int32.ofInt 0))))) ∧ True)) := by
  refine en_mk m_X12_count rfl hl (Nat.le_of_ble_eq_true rfl) ?_
  refine x_aload_n (M := M_X12_count) dX12_count_0 rfl ?_
  refine x_iconst (M := M_X12_count) dX12_count_1 ?_
  refine y_put (M := M_X12_count) (ci := 15) (C := RX12) (T := TX12) (N := 135) (ty := tyX12) cl15 dX12_count_2 o5208 0 (by decide) t_2391 (Or.inl rfl) (Nat.le_of_ble_eq_true rfl) rfl (fun h5209 w5210 f5211 => ?_)
  refine x_aload_n (M := M_X12_count) dX12_count_5 rfl ?_
  refine x_iload_n (M := M_X12_count) dX12_count_6 rfl ?_
  refine x_callSR (M := M_X12_count) (M' := M_X12_isSlot) rfl rfl dX12_count_7 m_X12_isSlot t_2841 t_2842 (q447 hl c0 c1) rfl rfl (Nat.le_of_ble_eq_true rfl) (Nat.le_of_ble_eq_true rfl) (Nat.le_of_ble_eq_true rfl) (Nat.le_of_ble_eq_true rfl) ?_
  refine x_if_eq (M := M_X12_count) (tgt := 25) dX12_count_10 (by decide) (fun q => absurd q (by decide +kernel)) (fun _ => ?_)
  refine x_iload_n (M := M_X12_count) dX12_count_13 rfl ?_
  refine x_i2l (M := M_X12_count) dX12_count_14 ?_
  refine x_lconst (M := M_X12_count) dX12_count_15 ?_
  refine x_ldc2 (M := M_X12_count) dX12_count_16 t_3118 ?_
  refine x_norm (M := M_X12_count) (st' := [.long (Int64.ofInt 5), .long (Int64.ofInt 0), .long (a1.toInt64), .ref 277]) rfl (vj_cons (by decide +kernel : (5 : Int64) = (Int64.ofInt 5)) (vj_cons (by decide +kernel : (Int64.ofNat ((0 : Fin 2) : Nat)) = (Int64.ofInt 0)) rfl)) rfl rfl rfl ?_
  refine x_callSR (M := M_X12_count) (M' := M_X12_in) rfl rfl dX12_count_19 m_X12_in t_2818 t_2819 (q5196 hl c2 c3 c4 c5 c6 c7 c8) rfl rfl (Nat.le_of_ble_eq_true rfl) (Nat.le_of_ble_eq_true rfl) (Nat.le_of_ble_eq_true rfl) (Nat.le_of_ble_eq_true rfl) ?_
  refine x_if_ne (M := M_X12_count) (tgt := 29) dX12_count_22 (by decide) (fun _ => ?_) (fun q => absurd q (by decide +kernel))
  refine x_iconst (M := M_X12_count) dX12_count_29 ?_
  refine x_iconst (M := M_X12_count) dX12_count_30 ?_
  refine y_callVR (M := M_X12_count) (M' := M_X12_fails) rfl rfl dX12_count_31 m_X12_fails t_2805 t_2807 s_157 (q241 hl w5210) rfl rfl w5210 rfl (Nat.le_of_ble_eq_true rfl) (Nat.le_of_ble_eq_true rfl) (Nat.le_of_ble_eq_true rfl) (Nat.le_of_ble_eq_true rfl) (fun h5212 f5213 w5214 => ?_)
  obtain ⟨o5215, -⟩ := w5214
  refine x_if_eq (M := M_X12_count) (tgt := 39) dX12_count_34 (by decide) (fun _ => ?_) (fun q => absurd q (by decide +kernel))
  refine x_iload_n (M := M_X12_count) dX12_count_39 rfl ?_
  refine x_tabOut (M := M_X12_count) (tgt := 137) dX12_count_40 (by have e9 : a1.toInt = a1.toInt := rfl; omega) (by decide) ?_
  refine x_aload_n (M := M_X12_count) dX12_count_137 rfl ?_
  refine x_getf (M := M_X12_count) (ci := 15) (C := RX12) (T := TX12) (N := 135) (ty := tyX12) cl15 dX12_count_138 o5215 16 (by decide) t_2407 (v := .int (0 : Int32)) rfl ?_
  refine x_top (M := M_X12_count) (y := (Int32.ofInt 0)) (by decide +kernel) ?_
  exact x_iret (M := M_X12_count) dX12_count_141 rfl ⟨rfl, (fr_tr f5213 (by decide) (fr_tr f5211 (by decide) fr_rf)), ⟨o5215, trivial⟩⟩ (Nat.le_of_ble_eq_true rfl) (Nat.le_of_ble_eq_true rfl)
set_option maxRecDepth 10000 in
theorem lc28_8 {l : Launch} {E : EE} (hl : l.stackTraces = false) (nm : String) {xs : Nat → Int32} (hx : E.2.2.2.2 0 = some (7, xs)) {h : HP} {a0 : Int32} {a1 : Int32} {dg : Int32} (e2 : xs 2 = a0) (e3 : xs 3 = a1) (c0 : ¬ (a0.toInt < 0)) (c1 : a0.toInt < 32) (c2 : ¬ (a1.toInt < 0)) (c3 : ¬ (5 < a1.toInt)) (c4 : ¬ (a1.toInt = 0)) (c5 : ¬ (a1.toInt = 1)) (c6 : ¬ (a1.toInt = 2)) (c7 : ¬ (a1.toInt = 3)) (c8 : ¬ (a1.toInt = 4)) (c9 : 4 < a1.toInt) (o5201 : ob h 32 = some (.inr (14, [.ref 33, .ref 162, .ref 166, .int (0 : Int32), .int (0 : Int32), .int (0 : Int32), .ref 167, .ref 170, .ref 173, .ref 177, .ref 193, .ref 208, .ref 222, .ref 238, .ref 252, .ref 274, .ref 275, .ref 276, .int (0 : Int32)]))) (o5202 : ob h 33 = some (.inl (4, 32, .inr (.inr (.inr (.inr (shf 1 32))))))) (o5203 : ob h 359 = some (.inl (1, 1, .inr (.inl (fun _ => 0))))) (o5217 : ob h 277 = some (.inr (15, (RB dg)))) : XX l E (M_law nm) 1312 342628 8074320 (fun o _ => o = .inl (some (.int 1))) 2085 [some (.ref 0), some (.ref 32), some (.ref 277), some (.ref 359), some (.int (Int32.ofInt 1)), none, none, none] [] h 328 2463747 := by
  refine x_aload_n (M := (M_law nm)) dL_law_2085 rfl ?_
  refine x_aload_n (M := (M_law nm)) dL_law_2086 rfl ?_
  refine x_iload (M := (M_law nm)) dL_law_2087 rfl ?_
  refine x_iconst (M := (M_law nm)) dL_law_2089 ?_
  refine x_iadd (M := (M_law nm)) dL_law_2090 ?_
  refine x_sald (M := (M_law nm)) dL_law_2091 (by decide) hx (vp_inD (by decide +kernel)) ?_
  refine x_top (M := (M_law nm)) (y := a0) ((congrArg xs (by decide +kernel : ((Int32.ofInt 1) + (Int32.ofInt 1)).toNatClampNeg = 2)).trans e2) ?_
  refine x_aload_n (M := (M_law nm)) dL_law_2092 rfl ?_
  refine x_iload (M := (M_law nm)) dL_law_2093 rfl ?_
  refine x_iconst (M := (M_law nm)) dL_law_2095 ?_
  refine x_iadd (M := (M_law nm)) dL_law_2096 ?_
  refine x_sald (M := (M_law nm)) dL_law_2097 (by decide) hx (vp_inD (by decide +kernel)) ?_
  refine x_top (M := (M_law nm)) (y := a1) ((congrArg xs (by decide +kernel : ((Int32.ofInt 1) + (Int32.ofInt 2)).toNatClampNeg = 3)).trans e3) ?_
  refine x_aload_n (M := (M_law nm)) dL_law_2098 rfl ?_
  refine y_callSW (M := (M_law nm)) (M' := M_L_count) rfl rfl dL_law_2099 m_L_count t_2291 t_2292 (q5184 hl c0 c1 c2 c3 c4 c5 c6 c7 c8 o5201 o5202 o5203) rfl rfl (Nat.le_of_ble_eq_true rfl) (Nat.le_of_ble_eq_true rfl) (Nat.le_of_ble_eq_true rfl) (Nat.le_of_ble_eq_true rfl) (fun h5204 f5205 w5206 => ?_)
  obtain ⟨o5207, -⟩ := w5206
  refine x_istore (M := (M_law nm)) dL_law_2102 (Nat.le_of_ble_eq_true rfl) rfl ?_
  refine x_aload_n (M := (M_law nm)) dL_law_2104 rfl ?_
  refine x_aload_n (M := (M_law nm)) dL_law_2105 rfl ?_
  refine x_iload (M := (M_law nm)) dL_law_2106 rfl ?_
  refine x_iconst (M := (M_law nm)) dL_law_2108 ?_
  refine x_iadd (M := (M_law nm)) dL_law_2109 ?_
  refine x_sald (M := (M_law nm)) dL_law_2110 (by decide) hx (vp_inD (by decide +kernel)) ?_
  refine x_top (M := (M_law nm)) (y := a0) ((congrArg xs (by decide +kernel : ((Int32.ofInt 1) + (Int32.ofInt 1)).toNatClampNeg = 2)).trans e2) ?_
  refine x_aload_n (M := (M_law nm)) dL_law_2111 rfl ?_
  refine x_iload (M := (M_law nm)) dL_law_2112 rfl ?_
  refine x_iconst (M := (M_law nm)) dL_law_2114 ?_
  refine x_iadd (M := (M_law nm)) dL_law_2115 ?_
  refine x_sald (M := (M_law nm)) dL_law_2116 (by decide) hx (vp_inD (by decide +kernel)) ?_
  refine x_top (M := (M_law nm)) (y := a1) ((congrArg xs (by decide +kernel : ((Int32.ofInt 1) + (Int32.ofInt 2)).toNatClampNeg = 3)).trans e3) ?_
  have o5218 := (f5205 277 _ (by decide) o5217)
  refine y_callVR (M := (M_law nm)) (M' := M_X12_count) rfl rfl dL_law_2117 m_X12_count t_3114 t_3115 t_3116 (q5216 hl c0 c1 c2 c3 c4 c5 c6 c7 c8 c9 o5218) rfl rfl o5218 rfl (Nat.le_of_ble_eq_true rfl) (Nat.le_of_ble_eq_true rfl) (Nat.le_of_ble_eq_true rfl) (Nat.le_of_ble_eq_true rfl) (fun h5219 f5220 w5221 => ?_)
  obtain ⟨o5222, -⟩ := w5221
  refine x_istore (M := (M_law nm)) dL_law_2120 (Nat.le_of_ble_eq_true rfl) rfl ?_
  refine x_aload_n (M := (M_law nm)) dL_law_2122 rfl ?_
  refine x_callVR (M := (M_law nm)) (M' := M_X12_thrown) rfl rfl dL_law_2123 m_X12_thrown t_2797 t_2798 t_2799 (q254 hl o5222) rfl rfl o5222 rfl (Nat.le_of_ble_eq_true rfl) (Nat.le_of_ble_eq_true rfl) (Nat.le_of_ble_eq_true rfl) (Nat.le_of_ble_eq_true rfl) ?_
  refine x_iload (M := (M_law nm)) dL_law_2126 rfl ?_
  refine x_icmp_eq (M := (M_law nm)) (tgt := 2133) dL_law_2128 (by decide) (fun _ => ?_) (fun q => absurd q (by decide +kernel))
  refine x_iload (M := (M_law nm)) dL_law_2133 rfl ?_
  refine x_if_ne (M := (M_law nm)) (tgt := 2150) dL_law_2135 (by decide) (fun q => absurd q (by decide +kernel)) (fun _ => ?_)
  refine x_aload_n (M := (M_law nm)) dL_law_2138 rfl ?_
  refine x_iconst (M := (M_law nm)) dL_law_2139 ?_
  have o5223 := (f5220 359 _ (by decide) o5207)
  refine x_lald (M := (M_law nm)) dL_law_2140 o5223 (vp_inD (by decide +kernel)) ?_
  refine x_topl (M := (M_law nm)) (y := (Int64.ofInt 0)) (by decide +kernel) ?_
  refine x_iload (M := (M_law nm)) dL_law_2141 rfl ?_
  refine x_i2l (M := (M_law nm)) dL_law_2143 ?_
  refine x_lcmp (M := (M_law nm)) dL_law_2144 ?_
  refine x_if_eq (M := (M_law nm)) (tgt := 2150) dL_law_2145 (by decide) (fun _ => ?_) (fun q => absurd q (by decide +kernel))
  refine x_goto (M := (M_law nm)) (tgt := 2449) dL_law_2150 (by decide) ?_
  refine x_iinc (M := (M_law nm)) dL_law_2449 rfl (Nat.le_of_ble_eq_true rfl) rfl ?_
  refine x_lvs (M := (M_law nm)) (lv' := [some (.ref 0), some (.ref 32), some (.ref 277), some (.ref 359), some (.int (Int32.ofInt 7)), some (.int (Int32.ofInt 0)), some (.int (Int32.ofInt 0)), none]) (by rw [(by decide +kernel : (Int32.ofInt 1) + Int32.ofInt 6 = (Int32.ofInt 7))] <;> rfl) ?_
  refine x_goto (M := (M_law nm)) (tgt := 33) dL_law_2452 (by decide) ?_
  refine x_iload (M := (M_law nm)) dL_law_33 rfl ?_
  refine x_aload_n (M := (M_law nm)) dL_law_35 rfl ?_
  refine x_slen (M := (M_law nm)) dL_law_36 (by decide) hx ?_
  refine x_bipush (M := (M_law nm)) dL_law_37 ?_
  refine x_isub (M := (M_law nm)) dL_law_39 ?_
  refine x_icmp_gt (M := (M_law nm)) (tgt := 2455) dL_law_40 (by decide) (fun _ => ?_) (fun q => absurd q (by decide +kernel))
  refine x_iconst (M := (M_law nm)) dL_law_2455 ?_
  exact x_zret (M := (M_law nm)) dL_law_2456 rfl (by decide) rfl (Nat.le_of_ble_eq_true rfl) (Nat.le_of_ble_eq_true rfl)
set_option maxRecDepth 10000 in
theorem q5241 {l : Launch} {E : EE} (hl : l.stackTraces = false) {h : HP} {a0 : Int32} {a1 : Int32} {dg : Int32} (c0 : ¬ (a0.toInt < 0)) (c1 : a0.toInt < 32) (c2 : ¬ (a1.toInt < 0)) (c3 : ¬ (5 < a1.toInt)) (c4 : ¬ (a1.toInt = 0)) (c5 : ¬ (a1.toInt = 1)) (c6 : ¬ (a1.toInt = 2)) (c7 : ¬ (a1.toInt = 3)) (c8 : ¬ (a1.toInt = 4)) (c9 : ¬ (4 < a1.toInt)) (o5231 : ob h 277 = some (.inr (15, (RB dg)))) (o5239 : ob h 280 = some (.inl (0, 33, .inl (fun _ => 0)))) : en_C l E M_X12_count 1 0 0 [.ref 277, .int a0, .int a1] h (pF (some (.int (Int32.ofInt 0))) [277] h (fun h' => ob h' 277 = some (.inr (15, ((RB dg).set 0 (.int (Int32.ofInt 0))))) ∧ True)) := by
  refine en_mk m_X12_count rfl hl (Nat.le_of_ble_eq_true rfl) ?_
  refine x_aload_n (M := M_X12_count) dX12_count_0 rfl ?_
  refine x_iconst (M := M_X12_count) dX12_count_1 ?_
  refine y_put (M := M_X12_count) (ci := 15) (C := RX12) (T := TX12) (N := 135) (ty := tyX12) cl15 dX12_count_2 o5231 0 (by decide) t_2391 (Or.inl rfl) (Nat.le_of_ble_eq_true rfl) rfl (fun h5232 w5233 f5234 => ?_)
  refine x_aload_n (M := M_X12_count) dX12_count_5 rfl ?_
  refine x_iload_n (M := M_X12_count) dX12_count_6 rfl ?_
  refine x_callSR (M := M_X12_count) (M' := M_X12_isSlot) rfl rfl dX12_count_7 m_X12_isSlot t_2841 t_2842 (q447 hl c0 c1) rfl rfl (Nat.le_of_ble_eq_true rfl) (Nat.le_of_ble_eq_true rfl) (Nat.le_of_ble_eq_true rfl) (Nat.le_of_ble_eq_true rfl) ?_
  refine x_if_eq (M := M_X12_count) (tgt := 25) dX12_count_10 (by decide) (fun q => absurd q (by decide +kernel)) (fun _ => ?_)
  refine x_iload_n (M := M_X12_count) dX12_count_13 rfl ?_
  refine x_i2l (M := M_X12_count) dX12_count_14 ?_
  refine x_lconst (M := M_X12_count) dX12_count_15 ?_
  refine x_ldc2 (M := M_X12_count) dX12_count_16 t_3118 ?_
  refine x_norm (M := M_X12_count) (st' := [.long (Int64.ofInt 5), .long (Int64.ofInt 0), .long (a1.toInt64), .ref 277]) rfl (vj_cons (by decide +kernel : (5 : Int64) = (Int64.ofInt 5)) (vj_cons (by decide +kernel : (Int64.ofNat ((0 : Fin 2) : Nat)) = (Int64.ofInt 0)) rfl)) rfl rfl rfl ?_
  refine x_callSR (M := M_X12_count) (M' := M_X12_in) rfl rfl dX12_count_19 m_X12_in t_2818 t_2819 (q5196 hl c2 c3 c4 c5 c6 c7 c8) rfl rfl (Nat.le_of_ble_eq_true rfl) (Nat.le_of_ble_eq_true rfl) (Nat.le_of_ble_eq_true rfl) (Nat.le_of_ble_eq_true rfl) ?_
  refine x_if_ne (M := M_X12_count) (tgt := 29) dX12_count_22 (by decide) (fun _ => ?_) (fun q => absurd q (by decide +kernel))
  refine x_iconst (M := M_X12_count) dX12_count_29 ?_
  refine x_iconst (M := M_X12_count) dX12_count_30 ?_
  refine y_callVR (M := M_X12_count) (M' := M_X12_fails) rfl rfl dX12_count_31 m_X12_fails t_2805 t_2807 s_157 (q241 hl w5233) rfl rfl w5233 rfl (Nat.le_of_ble_eq_true rfl) (Nat.le_of_ble_eq_true rfl) (Nat.le_of_ble_eq_true rfl) (Nat.le_of_ble_eq_true rfl) (fun h5235 f5236 w5237 => ?_)
  obtain ⟨o5238, -⟩ := w5237
  refine x_if_eq (M := M_X12_count) (tgt := 39) dX12_count_34 (by decide) (fun _ => ?_) (fun q => absurd q (by decide +kernel))
  refine x_iload_n (M := M_X12_count) dX12_count_39 rfl ?_
  refine x_tabIn (M := M_X12_count) (tgt := 100) (off := 60) dX12_count_40 (by have e9 : a1.toInt = 4 := (by have e8 : a1.toInt = a1.toInt := rfl; omega); rw [e9] <;> decide) (by have e9 : a1.toInt = 4 := (by have e8 : a1.toInt = a1.toInt := rfl; omega); rw [e9] <;> decide) (by have e9 : a1.toInt = 4 := (by have e8 : a1.toInt = a1.toInt := rfl; omega); rw [e9] <;> rfl) (by decide) ?_
  refine x_iconst (M := M_X12_count) dX12_count_100 ?_
  refine x_istore_n (M := M_X12_count) dX12_count_101 (Nat.le_of_ble_eq_true rfl) rfl ?_
  refine x_iconst (M := M_X12_count) dX12_count_102 ?_
  refine x_istore (M := M_X12_count) dX12_count_103 (Nat.le_of_ble_eq_true rfl) rfl ?_
  refine x_iload (M := M_X12_count) dX12_count_105 rfl ?_
  refine x_bipush (M := M_X12_count) dX12_count_107 ?_
  refine x_icmp_ge (M := M_X12_count) (tgt := 135) dX12_count_109 (by decide) (fun q => absurd q (by decide +kernel)) (fun _ => ?_)
  refine x_aload_n (M := M_X12_count) dX12_count_112 rfl ?_
  refine x_iload (M := M_X12_count) dX12_count_113 rfl ?_
  have o5240 := (f5236 280 _ (by decide) (f5234 280 _ (by decide) o5239))
  refine x_callVR (M := M_X12_count) (M' := M_X12_has) rfl rfl dX12_count_115 m_X12_has t_3033 t_3035 s_197 (q5064 hl o5238 o5240) rfl rfl o5238 rfl (Nat.le_of_ble_eq_true rfl) (Nat.le_of_ble_eq_true rfl) (Nat.le_of_ble_eq_true rfl) (Nat.le_of_ble_eq_true rfl) ?_
  refine x_if_eq (M := M_X12_count) (tgt := 127) dX12_count_118 (by decide) (fun _ => ?_) (fun q => absurd q (by decide +kernel))
  refine x_iload_n (M := M_X12_count) dX12_count_127 rfl ?_
  refine x_istore_n (M := M_X12_count) dX12_count_128 (Nat.le_of_ble_eq_true rfl) rfl ?_
  refine x_iinc (M := M_X12_count) dX12_count_129 rfl (Nat.le_of_ble_eq_true rfl) rfl ?_
  refine x_lvs (M := M_X12_count) (lv' := [some (.ref 277), some (.int a0), some (.int a1), some (.int (Int32.ofInt 0)), some (.int (Int32.ofInt 1))]) (by rw [(by decide +kernel : (Int32.ofInt 0) + Int32.ofInt 1 = (Int32.ofInt 1))] <;> rfl) ?_
  refine x_goto (M := M_X12_count) (tgt := 105) dX12_count_132 (by decide) ?_
  refine x_iload (M := M_X12_count) dX12_count_105 rfl ?_
  refine x_bipush (M := M_X12_count) dX12_count_107 ?_
  refine x_icmp_ge (M := M_X12_count) (tgt := 135) dX12_count_109 (by decide) (fun q => absurd q (by decide +kernel)) (fun _ => ?_)
  refine x_aload_n (M := M_X12_count) dX12_count_112 rfl ?_
  refine x_iload (M := M_X12_count) dX12_count_113 rfl ?_
  refine x_callVR (M := M_X12_count) (M' := M_X12_has) rfl rfl dX12_count_115 m_X12_has t_3033 t_3035 s_197 (q5069 hl o5238 o5240) rfl rfl o5238 rfl (Nat.le_of_ble_eq_true rfl) (Nat.le_of_ble_eq_true rfl) (Nat.le_of_ble_eq_true rfl) (Nat.le_of_ble_eq_true rfl) ?_
  refine x_if_eq (M := M_X12_count) (tgt := 127) dX12_count_118 (by decide) (fun _ => ?_) (fun q => absurd q (by decide +kernel))
  refine x_iload_n (M := M_X12_count) dX12_count_127 rfl ?_
  refine x_istore_n (M := M_X12_count) dX12_count_128 (Nat.le_of_ble_eq_true rfl) rfl ?_
  refine x_iinc (M := M_X12_count) dX12_count_129 rfl (Nat.le_of_ble_eq_true rfl) rfl ?_
  refine x_lvs (M := M_X12_count) (lv' := [some (.ref 277), some (.int a0), some (.int a1), some (.int (Int32.ofInt 0)), some (.int (Int32.ofInt 2))]) (by rw [(by decide +kernel : (Int32.ofInt 1) + Int32.ofInt 1 = (Int32.ofInt 2))] <;> rfl) ?_
  refine x_goto (M := M_X12_count) (tgt := 105) dX12_count_132 (by decide) ?_
  refine x_iload (M := M_X12_count) dX12_count_105 rfl ?_
  refine x_bipush (M := M_X12_count) dX12_count_107 ?_
  refine x_icmp_ge (M := M_X12_count) (tgt := 135) dX12_count_109 (by decide) (fun q => absurd q (by decide +kernel)) (fun _ => ?_)
  refine x_aload_n (M := M_X12_count) dX12_count_112 rfl ?_
  refine x_iload (M := M_X12_count) dX12_count_113 rfl ?_
  refine x_callVR (M := M_X12_count) (M' := M_X12_has) rfl rfl dX12_count_115 m_X12_has t_3033 t_3035 s_197 (q5072 hl o5238 o5240) rfl rfl o5238 rfl (Nat.le_of_ble_eq_true rfl) (Nat.le_of_ble_eq_true rfl) (Nat.le_of_ble_eq_true rfl) (Nat.le_of_ble_eq_true rfl) ?_
  refine x_if_eq (M := M_X12_count) (tgt := 127) dX12_count_118 (by decide) (fun _ => ?_) (fun q => absurd q (by decide +kernel))
  refine x_iload_n (M := M_X12_count) dX12_count_127 rfl ?_
  refine x_istore_n (M := M_X12_count) dX12_count_128 (Nat.le_of_ble_eq_true rfl) rfl ?_
  refine x_lvs (M := M_X12_count) (lv' := [some (.ref 277), some (.int a0), some (.int a1), some (.int (Int32.ofInt 0)), some (.int (Int32.ofInt 2))]) rfl ?_
  refine x_iinc (M := M_X12_count) dX12_count_129 rfl (Nat.le_of_ble_eq_true rfl) rfl ?_
  refine x_lvs (M := M_X12_count) (lv' := [some (.ref 277), some (.int a0), some (.int a1), some (.int (Int32.ofInt 0)), some (.int (Int32.ofInt 3))]) (by rw [(by decide +kernel : (Int32.ofInt 2) + Int32.ofInt 1 = (Int32.ofInt 3))] <;> rfl) ?_
  refine x_goto (M := M_X12_count) (tgt := 105) dX12_count_132 (by decide) ?_
  refine x_iload (M := M_X12_count) dX12_count_105 rfl ?_
  refine x_bipush (M := M_X12_count) dX12_count_107 ?_
  refine x_icmp_ge (M := M_X12_count) (tgt := 135) dX12_count_109 (by decide) (fun q => absurd q (by decide +kernel)) (fun _ => ?_)
  refine x_aload_n (M := M_X12_count) dX12_count_112 rfl ?_
  refine x_iload (M := M_X12_count) dX12_count_113 rfl ?_
  refine x_callVR (M := M_X12_count) (M' := M_X12_has) rfl rfl dX12_count_115 m_X12_has t_3033 t_3035 s_197 (q5075 hl o5238 o5240) rfl rfl o5238 rfl (Nat.le_of_ble_eq_true rfl) (Nat.le_of_ble_eq_true rfl) (Nat.le_of_ble_eq_true rfl) (Nat.le_of_ble_eq_true rfl) ?_
  refine x_if_eq (M := M_X12_count) (tgt := 127) dX12_count_118 (by decide) (fun _ => ?_) (fun q => absurd q (by decide +kernel))
  refine x_iload_n (M := M_X12_count) dX12_count_127 rfl ?_
  refine x_istore_n (M := M_X12_count) dX12_count_128 (Nat.le_of_ble_eq_true rfl) rfl ?_
  refine x_iinc (M := M_X12_count) dX12_count_129 rfl (Nat.le_of_ble_eq_true rfl) rfl ?_
  refine x_lvs (M := M_X12_count) (lv' := [some (.ref 277), some (.int a0), some (.int a1), some (.int (Int32.ofInt 0)), some (.int (Int32.ofInt 4))]) (by rw [(by decide +kernel : (Int32.ofInt 3) + Int32.ofInt 1 = (Int32.ofInt 4))] <;> rfl) ?_
  refine x_goto (M := M_X12_count) (tgt := 105) dX12_count_132 (by decide) ?_
  refine x_iload (M := M_X12_count) dX12_count_105 rfl ?_
  refine x_bipush (M := M_X12_count) dX12_count_107 ?_
  refine x_icmp_ge (M := M_X12_count) (tgt := 135) dX12_count_109 (by decide) (fun q => absurd q (by decide +kernel)) (fun _ => ?_)
  refine x_aload_n (M := M_X12_count) dX12_count_112 rfl ?_
  refine x_iload (M := M_X12_count) dX12_count_113 rfl ?_
  refine x_callVR (M := M_X12_count) (M' := M_X12_has) rfl rfl dX12_count_115 m_X12_has t_3033 t_3035 s_197 (q5078 hl o5238 o5240) rfl rfl o5238 rfl (Nat.le_of_ble_eq_true rfl) (Nat.le_of_ble_eq_true rfl) (Nat.le_of_ble_eq_true rfl) (Nat.le_of_ble_eq_true rfl) ?_
  refine x_if_eq (M := M_X12_count) (tgt := 127) dX12_count_118 (by decide) (fun _ => ?_) (fun q => absurd q (by decide +kernel))
  refine x_iload_n (M := M_X12_count) dX12_count_127 rfl ?_
  refine x_istore_n (M := M_X12_count) dX12_count_128 (Nat.le_of_ble_eq_true rfl) rfl ?_
  refine x_iinc (M := M_X12_count) dX12_count_129 rfl (Nat.le_of_ble_eq_true rfl) rfl ?_
  refine x_lvs (M := M_X12_count) (lv' := [some (.ref 277), some (.int a0), some (.int a1), some (.int (Int32.ofInt 0)), some (.int (Int32.ofInt 5))]) (by rw [(by decide +kernel : (Int32.ofInt 4) + Int32.ofInt 1 = (Int32.ofInt 5))] <;> rfl) ?_
  refine x_goto (M := M_X12_count) (tgt := 105) dX12_count_132 (by decide) ?_
  refine x_iload (M := M_X12_count) dX12_count_105 rfl ?_
  refine x_bipush (M := M_X12_count) dX12_count_107 ?_
  refine x_icmp_ge (M := M_X12_count) (tgt := 135) dX12_count_109 (by decide) (fun q => absurd q (by decide +kernel)) (fun _ => ?_)
  refine x_aload_n (M := M_X12_count) dX12_count_112 rfl ?_
  refine x_iload (M := M_X12_count) dX12_count_113 rfl ?_
  refine x_callVR (M := M_X12_count) (M' := M_X12_has) rfl rfl dX12_count_115 m_X12_has t_3033 t_3035 s_197 (q5081 hl o5238 o5240) rfl rfl o5238 rfl (Nat.le_of_ble_eq_true rfl) (Nat.le_of_ble_eq_true rfl) (Nat.le_of_ble_eq_true rfl) (Nat.le_of_ble_eq_true rfl) ?_
  refine x_if_eq (M := M_X12_count) (tgt := 127) dX12_count_118 (by decide) (fun _ => ?_) (fun q => absurd q (by decide +kernel))
  refine x_iload_n (M := M_X12_count) dX12_count_127 rfl ?_
  refine x_istore_n (M := M_X12_count) dX12_count_128 (Nat.le_of_ble_eq_true rfl) rfl ?_
  refine x_iinc (M := M_X12_count) dX12_count_129 rfl (Nat.le_of_ble_eq_true rfl) rfl ?_
  refine x_lvs (M := M_X12_count) (lv' := [some (.ref 277), some (.int a0), some (.int a1), some (.int (Int32.ofInt 0)), some (.int (Int32.ofInt 6))]) (by rw [(by decide +kernel : (Int32.ofInt 5) + Int32.ofInt 1 = (Int32.ofInt 6))] <;> rfl) ?_
  refine x_goto (M := M_X12_count) (tgt := 105) dX12_count_132 (by decide) ?_
  refine x_iload (M := M_X12_count) dX12_count_105 rfl ?_
  refine x_bipush (M := M_X12_count) dX12_count_107 ?_
  refine x_icmp_ge (M := M_X12_count) (tgt := 135) dX12_count_109 (by decide) (fun q => absurd q (by decide +kernel)) (fun _ => ?_)
  refine x_aload_n (M := M_X12_count) dX12_count_112 rfl ?_
  refine x_iload (M := M_X12_count) dX12_count_113 rfl ?_
  refine x_callVR (M := M_X12_count) (M' := M_X12_has) rfl rfl dX12_count_115 m_X12_has t_3033 t_3035 s_197 (q5084 hl o5238 o5240) rfl rfl o5238 rfl (Nat.le_of_ble_eq_true rfl) (Nat.le_of_ble_eq_true rfl) (Nat.le_of_ble_eq_true rfl) (Nat.le_of_ble_eq_true rfl) ?_
  refine x_if_eq (M := M_X12_count) (tgt := 127) dX12_count_118 (by decide) (fun _ => ?_) (fun q => absurd q (by decide +kernel))
  refine x_iload_n (M := M_X12_count) dX12_count_127 rfl ?_
  refine x_istore_n (M := M_X12_count) dX12_count_128 (Nat.le_of_ble_eq_true rfl) rfl ?_
  refine x_iinc (M := M_X12_count) dX12_count_129 rfl (Nat.le_of_ble_eq_true rfl) rfl ?_
  refine x_lvs (M := M_X12_count) (lv' := [some (.ref 277), some (.int a0), some (.int a1), some (.int (Int32.ofInt 0)), some (.int (Int32.ofInt 7))]) (by rw [(by decide +kernel : (Int32.ofInt 6) + Int32.ofInt 1 = (Int32.ofInt 7))] <;> rfl) ?_
  refine x_goto (M := M_X12_count) (tgt := 105) dX12_count_132 (by decide) ?_
  refine x_iload (M := M_X12_count) dX12_count_105 rfl ?_
  refine x_bipush (M := M_X12_count) dX12_count_107 ?_
  refine x_icmp_ge (M := M_X12_count) (tgt := 135) dX12_count_109 (by decide) (fun q => absurd q (by decide +kernel)) (fun _ => ?_)
  refine x_aload_n (M := M_X12_count) dX12_count_112 rfl ?_
  refine x_iload (M := M_X12_count) dX12_count_113 rfl ?_
  refine x_callVR (M := M_X12_count) (M' := M_X12_has) rfl rfl dX12_count_115 m_X12_has t_3033 t_3035 s_197 (q5087 hl o5238 o5240) rfl rfl o5238 rfl (Nat.le_of_ble_eq_true rfl) (Nat.le_of_ble_eq_true rfl) (Nat.le_of_ble_eq_true rfl) (Nat.le_of_ble_eq_true rfl) ?_
  refine x_if_eq (M := M_X12_count) (tgt := 127) dX12_count_118 (by decide) (fun _ => ?_) (fun q => absurd q (by decide +kernel))
  refine x_iload_n (M := M_X12_count) dX12_count_127 rfl ?_
  refine x_istore_n (M := M_X12_count) dX12_count_128 (Nat.le_of_ble_eq_true rfl) rfl ?_
  refine x_lvs (M := M_X12_count) (lv' := [some (.ref 277), some (.int a0), some (.int a1), some (.int (Int32.ofInt 0)), some (.int (Int32.ofInt 7))]) rfl ?_
  refine x_iinc (M := M_X12_count) dX12_count_129 rfl (Nat.le_of_ble_eq_true rfl) rfl ?_
  refine x_lvs (M := M_X12_count) (lv' := [some (.ref 277), some (.int a0), some (.int a1), some (.int (Int32.ofInt 0)), some (.int (Int32.ofInt 8))]) (by rw [(by decide +kernel : (Int32.ofInt 7) + Int32.ofInt 1 = (Int32.ofInt 8))] <;> rfl) ?_
  refine x_goto (M := M_X12_count) (tgt := 105) dX12_count_132 (by decide) ?_
  refine x_iload (M := M_X12_count) dX12_count_105 rfl ?_
  refine x_bipush (M := M_X12_count) dX12_count_107 ?_
  refine x_icmp_ge (M := M_X12_count) (tgt := 135) dX12_count_109 (by decide) (fun q => absurd q (by decide +kernel)) (fun _ => ?_)
  refine x_aload_n (M := M_X12_count) dX12_count_112 rfl ?_
  refine x_iload (M := M_X12_count) dX12_count_113 rfl ?_
  refine x_callVR (M := M_X12_count) (M' := M_X12_has) rfl rfl dX12_count_115 m_X12_has t_3033 t_3035 s_197 (q5090 hl o5238 o5240) rfl rfl o5238 rfl (Nat.le_of_ble_eq_true rfl) (Nat.le_of_ble_eq_true rfl) (Nat.le_of_ble_eq_true rfl) (Nat.le_of_ble_eq_true rfl) ?_
  refine x_if_eq (M := M_X12_count) (tgt := 127) dX12_count_118 (by decide) (fun _ => ?_) (fun q => absurd q (by decide +kernel))
  refine x_iload_n (M := M_X12_count) dX12_count_127 rfl ?_
  refine x_istore_n (M := M_X12_count) dX12_count_128 (Nat.le_of_ble_eq_true rfl) rfl ?_
  refine x_iinc (M := M_X12_count) dX12_count_129 rfl (Nat.le_of_ble_eq_true rfl) rfl ?_
  refine x_lvs (M := M_X12_count) (lv' := [some (.ref 277), some (.int a0), some (.int a1), some (.int (Int32.ofInt 0)), some (.int (Int32.ofInt 9))]) (by rw [(by decide +kernel : (Int32.ofInt 8) + Int32.ofInt 1 = (Int32.ofInt 9))] <;> rfl) ?_
  refine x_goto (M := M_X12_count) (tgt := 105) dX12_count_132 (by decide) ?_
  refine x_iload (M := M_X12_count) dX12_count_105 rfl ?_
  refine x_bipush (M := M_X12_count) dX12_count_107 ?_
  refine x_icmp_ge (M := M_X12_count) (tgt := 135) dX12_count_109 (by decide) (fun q => absurd q (by decide +kernel)) (fun _ => ?_)
  refine x_aload_n (M := M_X12_count) dX12_count_112 rfl ?_
  refine x_iload (M := M_X12_count) dX12_count_113 rfl ?_
  refine x_callVR (M := M_X12_count) (M' := M_X12_has) rfl rfl dX12_count_115 m_X12_has t_3033 t_3035 s_197 (q5093 hl o5238 o5240) rfl rfl o5238 rfl (Nat.le_of_ble_eq_true rfl) (Nat.le_of_ble_eq_true rfl) (Nat.le_of_ble_eq_true rfl) (Nat.le_of_ble_eq_true rfl) ?_
  refine x_if_eq (M := M_X12_count) (tgt := 127) dX12_count_118 (by decide) (fun _ => ?_) (fun q => absurd q (by decide +kernel))
  refine x_iload_n (M := M_X12_count) dX12_count_127 rfl ?_
  refine x_istore_n (M := M_X12_count) dX12_count_128 (Nat.le_of_ble_eq_true rfl) rfl ?_
  refine x_iinc (M := M_X12_count) dX12_count_129 rfl (Nat.le_of_ble_eq_true rfl) rfl ?_
  refine x_lvs (M := M_X12_count) (lv' := [some (.ref 277), some (.int a0), some (.int a1), some (.int (Int32.ofInt 0)), some (.int (Int32.ofInt 10))]) (by rw [(by decide +kernel : (Int32.ofInt 9) + Int32.ofInt 1 = (Int32.ofInt 10))] <;> rfl) ?_
  refine x_goto (M := M_X12_count) (tgt := 105) dX12_count_132 (by decide) ?_
  refine x_iload (M := M_X12_count) dX12_count_105 rfl ?_
  refine x_bipush (M := M_X12_count) dX12_count_107 ?_
  refine x_icmp_ge (M := M_X12_count) (tgt := 135) dX12_count_109 (by decide) (fun q => absurd q (by decide +kernel)) (fun _ => ?_)
  refine x_aload_n (M := M_X12_count) dX12_count_112 rfl ?_
  refine x_iload (M := M_X12_count) dX12_count_113 rfl ?_
  refine x_callVR (M := M_X12_count) (M' := M_X12_has) rfl rfl dX12_count_115 m_X12_has t_3033 t_3035 s_197 (q5096 hl o5238 o5240) rfl rfl o5238 rfl (Nat.le_of_ble_eq_true rfl) (Nat.le_of_ble_eq_true rfl) (Nat.le_of_ble_eq_true rfl) (Nat.le_of_ble_eq_true rfl) ?_
  refine x_if_eq (M := M_X12_count) (tgt := 127) dX12_count_118 (by decide) (fun _ => ?_) (fun q => absurd q (by decide +kernel))
  refine x_iload_n (M := M_X12_count) dX12_count_127 rfl ?_
  refine x_istore_n (M := M_X12_count) dX12_count_128 (Nat.le_of_ble_eq_true rfl) rfl ?_
  refine x_iinc (M := M_X12_count) dX12_count_129 rfl (Nat.le_of_ble_eq_true rfl) rfl ?_
  refine x_lvs (M := M_X12_count) (lv' := [some (.ref 277), some (.int a0), some (.int a1), some (.int (Int32.ofInt 0)), some (.int (Int32.ofInt 11))]) (by rw [(by decide +kernel : (Int32.ofInt 10) + Int32.ofInt 1 = (Int32.ofInt 11))] <;> rfl) ?_
  refine x_goto (M := M_X12_count) (tgt := 105) dX12_count_132 (by decide) ?_
  refine x_iload (M := M_X12_count) dX12_count_105 rfl ?_
  refine x_bipush (M := M_X12_count) dX12_count_107 ?_
  refine x_icmp_ge (M := M_X12_count) (tgt := 135) dX12_count_109 (by decide) (fun q => absurd q (by decide +kernel)) (fun _ => ?_)
  refine x_aload_n (M := M_X12_count) dX12_count_112 rfl ?_
  refine x_iload (M := M_X12_count) dX12_count_113 rfl ?_
  refine x_callVR (M := M_X12_count) (M' := M_X12_has) rfl rfl dX12_count_115 m_X12_has t_3033 t_3035 s_197 (q5099 hl o5238 o5240) rfl rfl o5238 rfl (Nat.le_of_ble_eq_true rfl) (Nat.le_of_ble_eq_true rfl) (Nat.le_of_ble_eq_true rfl) (Nat.le_of_ble_eq_true rfl) ?_
  refine x_if_eq (M := M_X12_count) (tgt := 127) dX12_count_118 (by decide) (fun _ => ?_) (fun q => absurd q (by decide +kernel))
  refine x_iload_n (M := M_X12_count) dX12_count_127 rfl ?_
  refine x_istore_n (M := M_X12_count) dX12_count_128 (Nat.le_of_ble_eq_true rfl) rfl ?_
  refine x_iinc (M := M_X12_count) dX12_count_129 rfl (Nat.le_of_ble_eq_true rfl) rfl ?_
  refine x_lvs (M := M_X12_count) (lv' := [some (.ref 277), some (.int a0), some (.int a1), some (.int (Int32.ofInt 0)), some (.int (Int32.ofInt 12))]) (by rw [(by decide +kernel : (Int32.ofInt 11) + Int32.ofInt 1 = (Int32.ofInt 12))] <;> rfl) ?_
  refine x_goto (M := M_X12_count) (tgt := 105) dX12_count_132 (by decide) ?_
  refine x_iload (M := M_X12_count) dX12_count_105 rfl ?_
  refine x_bipush (M := M_X12_count) dX12_count_107 ?_
  refine x_icmp_ge (M := M_X12_count) (tgt := 135) dX12_count_109 (by decide) (fun q => absurd q (by decide +kernel)) (fun _ => ?_)
  refine x_aload_n (M := M_X12_count) dX12_count_112 rfl ?_
  refine x_iload (M := M_X12_count) dX12_count_113 rfl ?_
  refine x_callVR (M := M_X12_count) (M' := M_X12_has) rfl rfl dX12_count_115 m_X12_has t_3033 t_3035 s_197 (q5102 hl o5238 o5240) rfl rfl o5238 rfl (Nat.le_of_ble_eq_true rfl) (Nat.le_of_ble_eq_true rfl) (Nat.le_of_ble_eq_true rfl) (Nat.le_of_ble_eq_true rfl) ?_
  refine x_if_eq (M := M_X12_count) (tgt := 127) dX12_count_118 (by decide) (fun _ => ?_) (fun q => absurd q (by decide +kernel))
  refine x_iload_n (M := M_X12_count) dX12_count_127 rfl ?_
  refine x_istore_n (M := M_X12_count) dX12_count_128 (Nat.le_of_ble_eq_true rfl) rfl ?_
  refine x_lvs (M := M_X12_count) (lv' := [some (.ref 277), some (.int a0), some (.int a1), some (.int (Int32.ofInt 0)), some (.int (Int32.ofInt 12))]) rfl ?_
  refine x_iinc (M := M_X12_count) dX12_count_129 rfl (Nat.le_of_ble_eq_true rfl) rfl ?_
  refine x_lvs (M := M_X12_count) (lv' := [some (.ref 277), some (.int a0), some (.int a1), some (.int (Int32.ofInt 0)), some (.int (Int32.ofInt 13))]) (by rw [(by decide +kernel : (Int32.ofInt 12) + Int32.ofInt 1 = (Int32.ofInt 13))] <;> rfl) ?_
  refine x_goto (M := M_X12_count) (tgt := 105) dX12_count_132 (by decide) ?_
  refine x_iload (M := M_X12_count) dX12_count_105 rfl ?_
  refine x_bipush (M := M_X12_count) dX12_count_107 ?_
  refine x_icmp_ge (M := M_X12_count) (tgt := 135) dX12_count_109 (by decide) (fun q => absurd q (by decide +kernel)) (fun _ => ?_)
  refine x_aload_n (M := M_X12_count) dX12_count_112 rfl ?_
  refine x_iload (M := M_X12_count) dX12_count_113 rfl ?_
  refine x_callVR (M := M_X12_count) (M' := M_X12_has) rfl rfl dX12_count_115 m_X12_has t_3033 t_3035 s_197 (q5105 hl o5238 o5240) rfl rfl o5238 rfl (Nat.le_of_ble_eq_true rfl) (Nat.le_of_ble_eq_true rfl) (Nat.le_of_ble_eq_true rfl) (Nat.le_of_ble_eq_true rfl) ?_
  refine x_if_eq (M := M_X12_count) (tgt := 127) dX12_count_118 (by decide) (fun _ => ?_) (fun q => absurd q (by decide +kernel))
  refine x_iload_n (M := M_X12_count) dX12_count_127 rfl ?_
  refine x_istore_n (M := M_X12_count) dX12_count_128 (Nat.le_of_ble_eq_true rfl) rfl ?_
  refine x_iinc (M := M_X12_count) dX12_count_129 rfl (Nat.le_of_ble_eq_true rfl) rfl ?_
  refine x_lvs (M := M_X12_count) (lv' := [some (.ref 277), some (.int a0), some (.int a1), some (.int (Int32.ofInt 0)), some (.int (Int32.ofInt 14))]) (by rw [(by decide +kernel : (Int32.ofInt 13) + Int32.ofInt 1 = (Int32.ofInt 14))] <;> rfl) ?_
  refine x_goto (M := M_X12_count) (tgt := 105) dX12_count_132 (by decide) ?_
  refine x_iload (M := M_X12_count) dX12_count_105 rfl ?_
  refine x_bipush (M := M_X12_count) dX12_count_107 ?_
  refine x_icmp_ge (M := M_X12_count) (tgt := 135) dX12_count_109 (by decide) (fun q => absurd q (by decide +kernel)) (fun _ => ?_)
  refine x_aload_n (M := M_X12_count) dX12_count_112 rfl ?_
  refine x_iload (M := M_X12_count) dX12_count_113 rfl ?_
  refine x_callVR (M := M_X12_count) (M' := M_X12_has) rfl rfl dX12_count_115 m_X12_has t_3033 t_3035 s_197 (q5108 hl o5238 o5240) rfl rfl o5238 rfl (Nat.le_of_ble_eq_true rfl) (Nat.le_of_ble_eq_true rfl) (Nat.le_of_ble_eq_true rfl) (Nat.le_of_ble_eq_true rfl) ?_
  refine x_if_eq (M := M_X12_count) (tgt := 127) dX12_count_118 (by decide) (fun _ => ?_) (fun q => absurd q (by decide +kernel))
  refine x_iload_n (M := M_X12_count) dX12_count_127 rfl ?_
  refine x_istore_n (M := M_X12_count) dX12_count_128 (Nat.le_of_ble_eq_true rfl) rfl ?_
  refine x_iinc (M := M_X12_count) dX12_count_129 rfl (Nat.le_of_ble_eq_true rfl) rfl ?_
  refine x_lvs (M := M_X12_count) (lv' := [some (.ref 277), some (.int a0), some (.int a1), some (.int (Int32.ofInt 0)), some (.int (Int32.ofInt 15))]) (by rw [(by decide +kernel : (Int32.ofInt 14) + Int32.ofInt 1 = (Int32.ofInt 15))] <;> rfl) ?_
  refine x_goto (M := M_X12_count) (tgt := 105) dX12_count_132 (by decide) ?_
  refine x_iload (M := M_X12_count) dX12_count_105 rfl ?_
  refine x_bipush (M := M_X12_count) dX12_count_107 ?_
  refine x_icmp_ge (M := M_X12_count) (tgt := 135) dX12_count_109 (by decide) (fun q => absurd q (by decide +kernel)) (fun _ => ?_)
  refine x_aload_n (M := M_X12_count) dX12_count_112 rfl ?_
  refine x_iload (M := M_X12_count) dX12_count_113 rfl ?_
  refine x_callVR (M := M_X12_count) (M' := M_X12_has) rfl rfl dX12_count_115 m_X12_has t_3033 t_3035 s_197 (q5111 hl o5238 o5240) rfl rfl o5238 rfl (Nat.le_of_ble_eq_true rfl) (Nat.le_of_ble_eq_true rfl) (Nat.le_of_ble_eq_true rfl) (Nat.le_of_ble_eq_true rfl) ?_
  refine x_if_eq (M := M_X12_count) (tgt := 127) dX12_count_118 (by decide) (fun _ => ?_) (fun q => absurd q (by decide +kernel))
  refine x_iload_n (M := M_X12_count) dX12_count_127 rfl ?_
  refine x_istore_n (M := M_X12_count) dX12_count_128 (Nat.le_of_ble_eq_true rfl) rfl ?_
  refine x_iinc (M := M_X12_count) dX12_count_129 rfl (Nat.le_of_ble_eq_true rfl) rfl ?_
  refine x_lvs (M := M_X12_count) (lv' := [some (.ref 277), some (.int a0), some (.int a1), some (.int (Int32.ofInt 0)), some (.int (Int32.ofInt 16))]) (by rw [(by decide +kernel : (Int32.ofInt 15) + Int32.ofInt 1 = (Int32.ofInt 16))] <;> rfl) ?_
  refine x_goto (M := M_X12_count) (tgt := 105) dX12_count_132 (by decide) ?_
  refine x_iload (M := M_X12_count) dX12_count_105 rfl ?_
  refine x_bipush (M := M_X12_count) dX12_count_107 ?_
  refine x_icmp_ge (M := M_X12_count) (tgt := 135) dX12_count_109 (by decide) (fun q => absurd q (by decide +kernel)) (fun _ => ?_)
  refine x_aload_n (M := M_X12_count) dX12_count_112 rfl ?_
  refine x_iload (M := M_X12_count) dX12_count_113 rfl ?_
  refine x_callVR (M := M_X12_count) (M' := M_X12_has) rfl rfl dX12_count_115 m_X12_has t_3033 t_3035 s_197 (q5114 hl o5238 o5240) rfl rfl o5238 rfl (Nat.le_of_ble_eq_true rfl) (Nat.le_of_ble_eq_true rfl) (Nat.le_of_ble_eq_true rfl) (Nat.le_of_ble_eq_true rfl) ?_
  refine x_if_eq (M := M_X12_count) (tgt := 127) dX12_count_118 (by decide) (fun _ => ?_) (fun q => absurd q (by decide +kernel))
  refine x_iload_n (M := M_X12_count) dX12_count_127 rfl ?_
  refine x_istore_n (M := M_X12_count) dX12_count_128 (Nat.le_of_ble_eq_true rfl) rfl ?_
  refine x_iinc (M := M_X12_count) dX12_count_129 rfl (Nat.le_of_ble_eq_true rfl) rfl ?_
  refine x_lvs (M := M_X12_count) (lv' := [some (.ref 277), some (.int a0), some (.int a1), some (.int (Int32.ofInt 0)), some (.int (Int32.ofInt 17))]) (by rw [(by decide +kernel : (Int32.ofInt 16) + Int32.ofInt 1 = (Int32.ofInt 17))] <;> rfl) ?_
  refine x_goto (M := M_X12_count) (tgt := 105) dX12_count_132 (by decide) ?_
  refine x_iload (M := M_X12_count) dX12_count_105 rfl ?_
  refine x_bipush (M := M_X12_count) dX12_count_107 ?_
  refine x_icmp_ge (M := M_X12_count) (tgt := 135) dX12_count_109 (by decide) (fun q => absurd q (by decide +kernel)) (fun _ => ?_)
  refine x_aload_n (M := M_X12_count) dX12_count_112 rfl ?_
  refine x_iload (M := M_X12_count) dX12_count_113 rfl ?_
  refine x_callVR (M := M_X12_count) (M' := M_X12_has) rfl rfl dX12_count_115 m_X12_has t_3033 t_3035 s_197 (q5117 hl o5238 o5240) rfl rfl o5238 rfl (Nat.le_of_ble_eq_true rfl) (Nat.le_of_ble_eq_true rfl) (Nat.le_of_ble_eq_true rfl) (Nat.le_of_ble_eq_true rfl) ?_
  refine x_if_eq (M := M_X12_count) (tgt := 127) dX12_count_118 (by decide) (fun _ => ?_) (fun q => absurd q (by decide +kernel))
  refine x_iload_n (M := M_X12_count) dX12_count_127 rfl ?_
  refine x_istore_n (M := M_X12_count) dX12_count_128 (Nat.le_of_ble_eq_true rfl) rfl ?_
  refine x_lvs (M := M_X12_count) (lv' := [some (.ref 277), some (.int a0), some (.int a1), some (.int (Int32.ofInt 0)), some (.int (Int32.ofInt 17))]) rfl ?_
  refine x_iinc (M := M_X12_count) dX12_count_129 rfl (Nat.le_of_ble_eq_true rfl) rfl ?_
  refine x_lvs (M := M_X12_count) (lv' := [some (.ref 277), some (.int a0), some (.int a1), some (.int (Int32.ofInt 0)), some (.int (Int32.ofInt 18))]) (by rw [(by decide +kernel : (Int32.ofInt 17) + Int32.ofInt 1 = (Int32.ofInt 18))] <;> rfl) ?_
  refine x_goto (M := M_X12_count) (tgt := 105) dX12_count_132 (by decide) ?_
  refine x_iload (M := M_X12_count) dX12_count_105 rfl ?_
  refine x_bipush (M := M_X12_count) dX12_count_107 ?_
  refine x_icmp_ge (M := M_X12_count) (tgt := 135) dX12_count_109 (by decide) (fun q => absurd q (by decide +kernel)) (fun _ => ?_)
  refine x_aload_n (M := M_X12_count) dX12_count_112 rfl ?_
  refine x_iload (M := M_X12_count) dX12_count_113 rfl ?_
  refine x_callVR (M := M_X12_count) (M' := M_X12_has) rfl rfl dX12_count_115 m_X12_has t_3033 t_3035 s_197 (q5120 hl o5238 o5240) rfl rfl o5238 rfl (Nat.le_of_ble_eq_true rfl) (Nat.le_of_ble_eq_true rfl) (Nat.le_of_ble_eq_true rfl) (Nat.le_of_ble_eq_true rfl) ?_
  refine x_if_eq (M := M_X12_count) (tgt := 127) dX12_count_118 (by decide) (fun _ => ?_) (fun q => absurd q (by decide +kernel))
  refine x_iload_n (M := M_X12_count) dX12_count_127 rfl ?_
  refine x_istore_n (M := M_X12_count) dX12_count_128 (Nat.le_of_ble_eq_true rfl) rfl ?_
  refine x_iinc (M := M_X12_count) dX12_count_129 rfl (Nat.le_of_ble_eq_true rfl) rfl ?_
  refine x_lvs (M := M_X12_count) (lv' := [some (.ref 277), some (.int a0), some (.int a1), some (.int (Int32.ofInt 0)), some (.int (Int32.ofInt 19))]) (by rw [(by decide +kernel : (Int32.ofInt 18) + Int32.ofInt 1 = (Int32.ofInt 19))] <;> rfl) ?_
  refine x_goto (M := M_X12_count) (tgt := 105) dX12_count_132 (by decide) ?_
  refine x_iload (M := M_X12_count) dX12_count_105 rfl ?_
  refine x_bipush (M := M_X12_count) dX12_count_107 ?_
  refine x_icmp_ge (M := M_X12_count) (tgt := 135) dX12_count_109 (by decide) (fun q => absurd q (by decide +kernel)) (fun _ => ?_)
  refine x_aload_n (M := M_X12_count) dX12_count_112 rfl ?_
  refine x_iload (M := M_X12_count) dX12_count_113 rfl ?_
  refine x_callVR (M := M_X12_count) (M' := M_X12_has) rfl rfl dX12_count_115 m_X12_has t_3033 t_3035 s_197 (q5123 hl o5238 o5240) rfl rfl o5238 rfl (Nat.le_of_ble_eq_true rfl) (Nat.le_of_ble_eq_true rfl) (Nat.le_of_ble_eq_true rfl) (Nat.le_of_ble_eq_true rfl) ?_
  refine x_if_eq (M := M_X12_count) (tgt := 127) dX12_count_118 (by decide) (fun _ => ?_) (fun q => absurd q (by decide +kernel))
  refine x_iload_n (M := M_X12_count) dX12_count_127 rfl ?_
  refine x_istore_n (M := M_X12_count) dX12_count_128 (Nat.le_of_ble_eq_true rfl) rfl ?_
  refine x_iinc (M := M_X12_count) dX12_count_129 rfl (Nat.le_of_ble_eq_true rfl) rfl ?_
  refine x_lvs (M := M_X12_count) (lv' := [some (.ref 277), some (.int a0), some (.int a1), some (.int (Int32.ofInt 0)), some (.int (Int32.ofInt 20))]) (by rw [(by decide +kernel : (Int32.ofInt 19) + Int32.ofInt 1 = (Int32.ofInt 20))] <;> rfl) ?_
  refine x_goto (M := M_X12_count) (tgt := 105) dX12_count_132 (by decide) ?_
  refine x_iload (M := M_X12_count) dX12_count_105 rfl ?_
  refine x_bipush (M := M_X12_count) dX12_count_107 ?_
  refine x_icmp_ge (M := M_X12_count) (tgt := 135) dX12_count_109 (by decide) (fun q => absurd q (by decide +kernel)) (fun _ => ?_)
  refine x_aload_n (M := M_X12_count) dX12_count_112 rfl ?_
  refine x_iload (M := M_X12_count) dX12_count_113 rfl ?_
  refine x_callVR (M := M_X12_count) (M' := M_X12_has) rfl rfl dX12_count_115 m_X12_has t_3033 t_3035 s_197 (q5126 hl o5238 o5240) rfl rfl o5238 rfl (Nat.le_of_ble_eq_true rfl) (Nat.le_of_ble_eq_true rfl) (Nat.le_of_ble_eq_true rfl) (Nat.le_of_ble_eq_true rfl) ?_
  refine x_if_eq (M := M_X12_count) (tgt := 127) dX12_count_118 (by decide) (fun _ => ?_) (fun q => absurd q (by decide +kernel))
  refine x_iload_n (M := M_X12_count) dX12_count_127 rfl ?_
  refine x_istore_n (M := M_X12_count) dX12_count_128 (Nat.le_of_ble_eq_true rfl) rfl ?_
  refine x_iinc (M := M_X12_count) dX12_count_129 rfl (Nat.le_of_ble_eq_true rfl) rfl ?_
  refine x_lvs (M := M_X12_count) (lv' := [some (.ref 277), some (.int a0), some (.int a1), some (.int (Int32.ofInt 0)), some (.int (Int32.ofInt 21))]) (by rw [(by decide +kernel : (Int32.ofInt 20) + Int32.ofInt 1 = (Int32.ofInt 21))] <;> rfl) ?_
  refine x_goto (M := M_X12_count) (tgt := 105) dX12_count_132 (by decide) ?_
  refine x_iload (M := M_X12_count) dX12_count_105 rfl ?_
  refine x_bipush (M := M_X12_count) dX12_count_107 ?_
  refine x_icmp_ge (M := M_X12_count) (tgt := 135) dX12_count_109 (by decide) (fun q => absurd q (by decide +kernel)) (fun _ => ?_)
  refine x_aload_n (M := M_X12_count) dX12_count_112 rfl ?_
  refine x_iload (M := M_X12_count) dX12_count_113 rfl ?_
  refine x_callVR (M := M_X12_count) (M' := M_X12_has) rfl rfl dX12_count_115 m_X12_has t_3033 t_3035 s_197 (q5129 hl o5238 o5240) rfl rfl o5238 rfl (Nat.le_of_ble_eq_true rfl) (Nat.le_of_ble_eq_true rfl) (Nat.le_of_ble_eq_true rfl) (Nat.le_of_ble_eq_true rfl) ?_
  refine x_if_eq (M := M_X12_count) (tgt := 127) dX12_count_118 (by decide) (fun _ => ?_) (fun q => absurd q (by decide +kernel))
  refine x_iload_n (M := M_X12_count) dX12_count_127 rfl ?_
  refine x_istore_n (M := M_X12_count) dX12_count_128 (Nat.le_of_ble_eq_true rfl) rfl ?_
  refine x_iinc (M := M_X12_count) dX12_count_129 rfl (Nat.le_of_ble_eq_true rfl) rfl ?_
  refine x_lvs (M := M_X12_count) (lv' := [some (.ref 277), some (.int a0), some (.int a1), some (.int (Int32.ofInt 0)), some (.int (Int32.ofInt 22))]) (by rw [(by decide +kernel : (Int32.ofInt 21) + Int32.ofInt 1 = (Int32.ofInt 22))] <;> rfl) ?_
  refine x_goto (M := M_X12_count) (tgt := 105) dX12_count_132 (by decide) ?_
  refine x_iload (M := M_X12_count) dX12_count_105 rfl ?_
  refine x_bipush (M := M_X12_count) dX12_count_107 ?_
  refine x_icmp_ge (M := M_X12_count) (tgt := 135) dX12_count_109 (by decide) (fun q => absurd q (by decide +kernel)) (fun _ => ?_)
  refine x_aload_n (M := M_X12_count) dX12_count_112 rfl ?_
  refine x_iload (M := M_X12_count) dX12_count_113 rfl ?_
  refine x_callVR (M := M_X12_count) (M' := M_X12_has) rfl rfl dX12_count_115 m_X12_has t_3033 t_3035 s_197 (q5132 hl o5238 o5240) rfl rfl o5238 rfl (Nat.le_of_ble_eq_true rfl) (Nat.le_of_ble_eq_true rfl) (Nat.le_of_ble_eq_true rfl) (Nat.le_of_ble_eq_true rfl) ?_
  refine x_if_eq (M := M_X12_count) (tgt := 127) dX12_count_118 (by decide) (fun _ => ?_) (fun q => absurd q (by decide +kernel))
  refine x_iload_n (M := M_X12_count) dX12_count_127 rfl ?_
  refine x_istore_n (M := M_X12_count) dX12_count_128 (Nat.le_of_ble_eq_true rfl) rfl ?_
  refine x_lvs (M := M_X12_count) (lv' := [some (.ref 277), some (.int a0), some (.int a1), some (.int (Int32.ofInt 0)), some (.int (Int32.ofInt 22))]) rfl ?_
  refine x_iinc (M := M_X12_count) dX12_count_129 rfl (Nat.le_of_ble_eq_true rfl) rfl ?_
  refine x_lvs (M := M_X12_count) (lv' := [some (.ref 277), some (.int a0), some (.int a1), some (.int (Int32.ofInt 0)), some (.int (Int32.ofInt 23))]) (by rw [(by decide +kernel : (Int32.ofInt 22) + Int32.ofInt 1 = (Int32.ofInt 23))] <;> rfl) ?_
  refine x_goto (M := M_X12_count) (tgt := 105) dX12_count_132 (by decide) ?_
  refine x_iload (M := M_X12_count) dX12_count_105 rfl ?_
  refine x_bipush (M := M_X12_count) dX12_count_107 ?_
  refine x_icmp_ge (M := M_X12_count) (tgt := 135) dX12_count_109 (by decide) (fun q => absurd q (by decide +kernel)) (fun _ => ?_)
  refine x_aload_n (M := M_X12_count) dX12_count_112 rfl ?_
  refine x_iload (M := M_X12_count) dX12_count_113 rfl ?_
  refine x_callVR (M := M_X12_count) (M' := M_X12_has) rfl rfl dX12_count_115 m_X12_has t_3033 t_3035 s_197 (q5135 hl o5238 o5240) rfl rfl o5238 rfl (Nat.le_of_ble_eq_true rfl) (Nat.le_of_ble_eq_true rfl) (Nat.le_of_ble_eq_true rfl) (Nat.le_of_ble_eq_true rfl) ?_
  refine x_if_eq (M := M_X12_count) (tgt := 127) dX12_count_118 (by decide) (fun _ => ?_) (fun q => absurd q (by decide +kernel))
  refine x_iload_n (M := M_X12_count) dX12_count_127 rfl ?_
  refine x_istore_n (M := M_X12_count) dX12_count_128 (Nat.le_of_ble_eq_true rfl) rfl ?_
  refine x_iinc (M := M_X12_count) dX12_count_129 rfl (Nat.le_of_ble_eq_true rfl) rfl ?_
  refine x_lvs (M := M_X12_count) (lv' := [some (.ref 277), some (.int a0), some (.int a1), some (.int (Int32.ofInt 0)), some (.int (Int32.ofInt 24))]) (by rw [(by decide +kernel : (Int32.ofInt 23) + Int32.ofInt 1 = (Int32.ofInt 24))] <;> rfl) ?_
  refine x_goto (M := M_X12_count) (tgt := 105) dX12_count_132 (by decide) ?_
  refine x_iload (M := M_X12_count) dX12_count_105 rfl ?_
  refine x_bipush (M := M_X12_count) dX12_count_107 ?_
  refine x_icmp_ge (M := M_X12_count) (tgt := 135) dX12_count_109 (by decide) (fun q => absurd q (by decide +kernel)) (fun _ => ?_)
  refine x_aload_n (M := M_X12_count) dX12_count_112 rfl ?_
  refine x_iload (M := M_X12_count) dX12_count_113 rfl ?_
  refine x_callVR (M := M_X12_count) (M' := M_X12_has) rfl rfl dX12_count_115 m_X12_has t_3033 t_3035 s_197 (q5138 hl o5238 o5240) rfl rfl o5238 rfl (Nat.le_of_ble_eq_true rfl) (Nat.le_of_ble_eq_true rfl) (Nat.le_of_ble_eq_true rfl) (Nat.le_of_ble_eq_true rfl) ?_
  refine x_if_eq (M := M_X12_count) (tgt := 127) dX12_count_118 (by decide) (fun _ => ?_) (fun q => absurd q (by decide +kernel))
  refine x_iload_n (M := M_X12_count) dX12_count_127 rfl ?_
  refine x_istore_n (M := M_X12_count) dX12_count_128 (Nat.le_of_ble_eq_true rfl) rfl ?_
  refine x_iinc (M := M_X12_count) dX12_count_129 rfl (Nat.le_of_ble_eq_true rfl) rfl ?_
  refine x_lvs (M := M_X12_count) (lv' := [some (.ref 277), some (.int a0), some (.int a1), some (.int (Int32.ofInt 0)), some (.int (Int32.ofInt 25))]) (by rw [(by decide +kernel : (Int32.ofInt 24) + Int32.ofInt 1 = (Int32.ofInt 25))] <;> rfl) ?_
  refine x_goto (M := M_X12_count) (tgt := 105) dX12_count_132 (by decide) ?_
  refine x_iload (M := M_X12_count) dX12_count_105 rfl ?_
  refine x_bipush (M := M_X12_count) dX12_count_107 ?_
  refine x_icmp_ge (M := M_X12_count) (tgt := 135) dX12_count_109 (by decide) (fun q => absurd q (by decide +kernel)) (fun _ => ?_)
  refine x_aload_n (M := M_X12_count) dX12_count_112 rfl ?_
  refine x_iload (M := M_X12_count) dX12_count_113 rfl ?_
  refine x_callVR (M := M_X12_count) (M' := M_X12_has) rfl rfl dX12_count_115 m_X12_has t_3033 t_3035 s_197 (q5141 hl o5238 o5240) rfl rfl o5238 rfl (Nat.le_of_ble_eq_true rfl) (Nat.le_of_ble_eq_true rfl) (Nat.le_of_ble_eq_true rfl) (Nat.le_of_ble_eq_true rfl) ?_
  refine x_if_eq (M := M_X12_count) (tgt := 127) dX12_count_118 (by decide) (fun _ => ?_) (fun q => absurd q (by decide +kernel))
  refine x_iload_n (M := M_X12_count) dX12_count_127 rfl ?_
  refine x_istore_n (M := M_X12_count) dX12_count_128 (Nat.le_of_ble_eq_true rfl) rfl ?_
  refine x_iinc (M := M_X12_count) dX12_count_129 rfl (Nat.le_of_ble_eq_true rfl) rfl ?_
  refine x_lvs (M := M_X12_count) (lv' := [some (.ref 277), some (.int a0), some (.int a1), some (.int (Int32.ofInt 0)), some (.int (Int32.ofInt 26))]) (by rw [(by decide +kernel : (Int32.ofInt 25) + Int32.ofInt 1 = (Int32.ofInt 26))] <;> rfl) ?_
  refine x_goto (M := M_X12_count) (tgt := 105) dX12_count_132 (by decide) ?_
  refine x_iload (M := M_X12_count) dX12_count_105 rfl ?_
  refine x_bipush (M := M_X12_count) dX12_count_107 ?_
  refine x_icmp_ge (M := M_X12_count) (tgt := 135) dX12_count_109 (by decide) (fun q => absurd q (by decide +kernel)) (fun _ => ?_)
  refine x_aload_n (M := M_X12_count) dX12_count_112 rfl ?_
  refine x_iload (M := M_X12_count) dX12_count_113 rfl ?_
  refine x_callVR (M := M_X12_count) (M' := M_X12_has) rfl rfl dX12_count_115 m_X12_has t_3033 t_3035 s_197 (q5144 hl o5238 o5240) rfl rfl o5238 rfl (Nat.le_of_ble_eq_true rfl) (Nat.le_of_ble_eq_true rfl) (Nat.le_of_ble_eq_true rfl) (Nat.le_of_ble_eq_true rfl) ?_
  refine x_if_eq (M := M_X12_count) (tgt := 127) dX12_count_118 (by decide) (fun _ => ?_) (fun q => absurd q (by decide +kernel))
  refine x_iload_n (M := M_X12_count) dX12_count_127 rfl ?_
  refine x_istore_n (M := M_X12_count) dX12_count_128 (Nat.le_of_ble_eq_true rfl) rfl ?_
  refine x_iinc (M := M_X12_count) dX12_count_129 rfl (Nat.le_of_ble_eq_true rfl) rfl ?_
  refine x_lvs (M := M_X12_count) (lv' := [some (.ref 277), some (.int a0), some (.int a1), some (.int (Int32.ofInt 0)), some (.int (Int32.ofInt 27))]) (by rw [(by decide +kernel : (Int32.ofInt 26) + Int32.ofInt 1 = (Int32.ofInt 27))] <;> rfl) ?_
  refine x_goto (M := M_X12_count) (tgt := 105) dX12_count_132 (by decide) ?_
  refine x_iload (M := M_X12_count) dX12_count_105 rfl ?_
  refine x_bipush (M := M_X12_count) dX12_count_107 ?_
  refine x_icmp_ge (M := M_X12_count) (tgt := 135) dX12_count_109 (by decide) (fun q => absurd q (by decide +kernel)) (fun _ => ?_)
  refine x_aload_n (M := M_X12_count) dX12_count_112 rfl ?_
  refine x_iload (M := M_X12_count) dX12_count_113 rfl ?_
  refine x_callVR (M := M_X12_count) (M' := M_X12_has) rfl rfl dX12_count_115 m_X12_has t_3033 t_3035 s_197 (q5147 hl o5238 o5240) rfl rfl o5238 rfl (Nat.le_of_ble_eq_true rfl) (Nat.le_of_ble_eq_true rfl) (Nat.le_of_ble_eq_true rfl) (Nat.le_of_ble_eq_true rfl) ?_
  refine x_if_eq (M := M_X12_count) (tgt := 127) dX12_count_118 (by decide) (fun _ => ?_) (fun q => absurd q (by decide +kernel))
  refine x_iload_n (M := M_X12_count) dX12_count_127 rfl ?_
  refine x_istore_n (M := M_X12_count) dX12_count_128 (Nat.le_of_ble_eq_true rfl) rfl ?_
  refine x_lvs (M := M_X12_count) (lv' := [some (.ref 277), some (.int a0), some (.int a1), some (.int (Int32.ofInt 0)), some (.int (Int32.ofInt 27))]) rfl ?_
  refine x_iinc (M := M_X12_count) dX12_count_129 rfl (Nat.le_of_ble_eq_true rfl) rfl ?_
  refine x_lvs (M := M_X12_count) (lv' := [some (.ref 277), some (.int a0), some (.int a1), some (.int (Int32.ofInt 0)), some (.int (Int32.ofInt 28))]) (by rw [(by decide +kernel : (Int32.ofInt 27) + Int32.ofInt 1 = (Int32.ofInt 28))] <;> rfl) ?_
  refine x_goto (M := M_X12_count) (tgt := 105) dX12_count_132 (by decide) ?_
  refine x_iload (M := M_X12_count) dX12_count_105 rfl ?_
  refine x_bipush (M := M_X12_count) dX12_count_107 ?_
  refine x_icmp_ge (M := M_X12_count) (tgt := 135) dX12_count_109 (by decide) (fun q => absurd q (by decide +kernel)) (fun _ => ?_)
  refine x_aload_n (M := M_X12_count) dX12_count_112 rfl ?_
  refine x_iload (M := M_X12_count) dX12_count_113 rfl ?_
  refine x_callVR (M := M_X12_count) (M' := M_X12_has) rfl rfl dX12_count_115 m_X12_has t_3033 t_3035 s_197 (q5150 hl o5238 o5240) rfl rfl o5238 rfl (Nat.le_of_ble_eq_true rfl) (Nat.le_of_ble_eq_true rfl) (Nat.le_of_ble_eq_true rfl) (Nat.le_of_ble_eq_true rfl) ?_
  refine x_if_eq (M := M_X12_count) (tgt := 127) dX12_count_118 (by decide) (fun _ => ?_) (fun q => absurd q (by decide +kernel))
  refine x_iload_n (M := M_X12_count) dX12_count_127 rfl ?_
  refine x_istore_n (M := M_X12_count) dX12_count_128 (Nat.le_of_ble_eq_true rfl) rfl ?_
  refine x_iinc (M := M_X12_count) dX12_count_129 rfl (Nat.le_of_ble_eq_true rfl) rfl ?_
  refine x_lvs (M := M_X12_count) (lv' := [some (.ref 277), some (.int a0), some (.int a1), some (.int (Int32.ofInt 0)), some (.int (Int32.ofInt 29))]) (by rw [(by decide +kernel : (Int32.ofInt 28) + Int32.ofInt 1 = (Int32.ofInt 29))] <;> rfl) ?_
  refine x_goto (M := M_X12_count) (tgt := 105) dX12_count_132 (by decide) ?_
  refine x_iload (M := M_X12_count) dX12_count_105 rfl ?_
  refine x_bipush (M := M_X12_count) dX12_count_107 ?_
  refine x_icmp_ge (M := M_X12_count) (tgt := 135) dX12_count_109 (by decide) (fun q => absurd q (by decide +kernel)) (fun _ => ?_)
  refine x_aload_n (M := M_X12_count) dX12_count_112 rfl ?_
  refine x_iload (M := M_X12_count) dX12_count_113 rfl ?_
  refine x_callVR (M := M_X12_count) (M' := M_X12_has) rfl rfl dX12_count_115 m_X12_has t_3033 t_3035 s_197 (q5153 hl o5238 o5240) rfl rfl o5238 rfl (Nat.le_of_ble_eq_true rfl) (Nat.le_of_ble_eq_true rfl) (Nat.le_of_ble_eq_true rfl) (Nat.le_of_ble_eq_true rfl) ?_
  refine x_if_eq (M := M_X12_count) (tgt := 127) dX12_count_118 (by decide) (fun _ => ?_) (fun q => absurd q (by decide +kernel))
  refine x_iload_n (M := M_X12_count) dX12_count_127 rfl ?_
  refine x_istore_n (M := M_X12_count) dX12_count_128 (Nat.le_of_ble_eq_true rfl) rfl ?_
  refine x_iinc (M := M_X12_count) dX12_count_129 rfl (Nat.le_of_ble_eq_true rfl) rfl ?_
  refine x_lvs (M := M_X12_count) (lv' := [some (.ref 277), some (.int a0), some (.int a1), some (.int (Int32.ofInt 0)), some (.int (Int32.ofInt 30))]) (by rw [(by decide +kernel : (Int32.ofInt 29) + Int32.ofInt 1 = (Int32.ofInt 30))] <;> rfl) ?_
  refine x_goto (M := M_X12_count) (tgt := 105) dX12_count_132 (by decide) ?_
  refine x_iload (M := M_X12_count) dX12_count_105 rfl ?_
  refine x_bipush (M := M_X12_count) dX12_count_107 ?_
  refine x_icmp_ge (M := M_X12_count) (tgt := 135) dX12_count_109 (by decide) (fun q => absurd q (by decide +kernel)) (fun _ => ?_)
  refine x_aload_n (M := M_X12_count) dX12_count_112 rfl ?_
  refine x_iload (M := M_X12_count) dX12_count_113 rfl ?_
  refine x_callVR (M := M_X12_count) (M' := M_X12_has) rfl rfl dX12_count_115 m_X12_has t_3033 t_3035 s_197 (q5156 hl o5238 o5240) rfl rfl o5238 rfl (Nat.le_of_ble_eq_true rfl) (Nat.le_of_ble_eq_true rfl) (Nat.le_of_ble_eq_true rfl) (Nat.le_of_ble_eq_true rfl) ?_
  refine x_if_eq (M := M_X12_count) (tgt := 127) dX12_count_118 (by decide) (fun _ => ?_) (fun q => absurd q (by decide +kernel))
  refine x_iload_n (M := M_X12_count) dX12_count_127 rfl ?_
  refine x_istore_n (M := M_X12_count) dX12_count_128 (Nat.le_of_ble_eq_true rfl) rfl ?_
  refine x_iinc (M := M_X12_count) dX12_count_129 rfl (Nat.le_of_ble_eq_true rfl) rfl ?_
  refine x_lvs (M := M_X12_count) (lv' := [some (.ref 277), some (.int a0), some (.int a1), some (.int (Int32.ofInt 0)), some (.int (Int32.ofInt 31))]) (by rw [(by decide +kernel : (Int32.ofInt 30) + Int32.ofInt 1 = (Int32.ofInt 31))] <;> rfl) ?_
  refine x_goto (M := M_X12_count) (tgt := 105) dX12_count_132 (by decide) ?_
  refine x_iload (M := M_X12_count) dX12_count_105 rfl ?_
  refine x_bipush (M := M_X12_count) dX12_count_107 ?_
  refine x_icmp_ge (M := M_X12_count) (tgt := 135) dX12_count_109 (by decide) (fun q => absurd q (by decide +kernel)) (fun _ => ?_)
  refine x_aload_n (M := M_X12_count) dX12_count_112 rfl ?_
  refine x_iload (M := M_X12_count) dX12_count_113 rfl ?_
  refine x_callVR (M := M_X12_count) (M' := M_X12_has) rfl rfl dX12_count_115 m_X12_has t_3033 t_3035 s_197 (q5159 hl o5238 o5240) rfl rfl o5238 rfl (Nat.le_of_ble_eq_true rfl) (Nat.le_of_ble_eq_true rfl) (Nat.le_of_ble_eq_true rfl) (Nat.le_of_ble_eq_true rfl) ?_
  refine x_if_eq (M := M_X12_count) (tgt := 127) dX12_count_118 (by decide) (fun _ => ?_) (fun q => absurd q (by decide +kernel))
  refine x_iload_n (M := M_X12_count) dX12_count_127 rfl ?_
  refine x_istore_n (M := M_X12_count) dX12_count_128 (Nat.le_of_ble_eq_true rfl) rfl ?_
  refine x_iinc (M := M_X12_count) dX12_count_129 rfl (Nat.le_of_ble_eq_true rfl) rfl ?_
  refine x_lvs (M := M_X12_count) (lv' := [some (.ref 277), some (.int a0), some (.int a1), some (.int (Int32.ofInt 0)), some (.int (Int32.ofInt 32))]) (by rw [(by decide +kernel : (Int32.ofInt 31) + Int32.ofInt 1 = (Int32.ofInt 32))] <;> rfl) ?_
  refine x_goto (M := M_X12_count) (tgt := 105) dX12_count_132 (by decide) ?_
  refine x_iload (M := M_X12_count) dX12_count_105 rfl ?_
  refine x_bipush (M := M_X12_count) dX12_count_107 ?_
  refine x_icmp_ge (M := M_X12_count) (tgt := 135) dX12_count_109 (by decide) (fun _ => ?_) (fun q => absurd q (by decide +kernel))
  refine x_iload_n (M := M_X12_count) dX12_count_135 rfl ?_
  exact x_iret (M := M_X12_count) dX12_count_136 rfl ⟨rfl, (fr_tr f5236 (by decide) (fr_tr f5234 (by decide) fr_rf)), ⟨o5238, trivial⟩⟩ (Nat.le_of_ble_eq_true rfl) (Nat.le_of_ble_eq_true rfl)
set_option maxRecDepth 10000 in
theorem lc28_9 {l : Launch} {E : EE} (hl : l.stackTraces = false) (nm : String) {xs : Nat → Int32} (hx : E.2.2.2.2 0 = some (7, xs)) {h : HP} {a0 : Int32} {a1 : Int32} {dg : Int32} (e2 : xs 2 = a0) (e3 : xs 3 = a1) (c0 : ¬ (a0.toInt < 0)) (c1 : a0.toInt < 32) (c2 : ¬ (a1.toInt < 0)) (c3 : ¬ (5 < a1.toInt)) (c4 : ¬ (a1.toInt = 0)) (c5 : ¬ (a1.toInt = 1)) (c6 : ¬ (a1.toInt = 2)) (c7 : ¬ (a1.toInt = 3)) (c8 : ¬ (a1.toInt = 4)) (c9 : ¬ (4 < a1.toInt)) (o5224 : ob h 32 = some (.inr (14, [.ref 33, .ref 162, .ref 166, .int (0 : Int32), .int (0 : Int32), .int (0 : Int32), .ref 167, .ref 170, .ref 173, .ref 177, .ref 193, .ref 208, .ref 222, .ref 238, .ref 252, .ref 274, .ref 275, .ref 276, .int (0 : Int32)]))) (o5225 : ob h 33 = some (.inl (4, 32, .inr (.inr (.inr (.inr (shf 1 32))))))) (o5226 : ob h 359 = some (.inl (1, 1, .inr (.inl (fun _ => 0))))) (o5242 : ob h 277 = some (.inr (15, (RB dg)))) (o5244 : ob h 280 = some (.inl (0, 33, .inl (fun _ => 0)))) : XX l E (M_law nm) 1312 342628 8074320 (fun o _ => o = .inl (some (.int 1))) 2085 [some (.ref 0), some (.ref 32), some (.ref 277), some (.ref 359), some (.int (Int32.ofInt 1)), none, none, none] [] h 328 2463747 := by
  refine x_aload_n (M := (M_law nm)) dL_law_2085 rfl ?_
  refine x_aload_n (M := (M_law nm)) dL_law_2086 rfl ?_
  refine x_iload (M := (M_law nm)) dL_law_2087 rfl ?_
  refine x_iconst (M := (M_law nm)) dL_law_2089 ?_
  refine x_iadd (M := (M_law nm)) dL_law_2090 ?_
  refine x_sald (M := (M_law nm)) dL_law_2091 (by decide) hx (vp_inD (by decide +kernel)) ?_
  refine x_top (M := (M_law nm)) (y := a0) ((congrArg xs (by decide +kernel : ((Int32.ofInt 1) + (Int32.ofInt 1)).toNatClampNeg = 2)).trans e2) ?_
  refine x_aload_n (M := (M_law nm)) dL_law_2092 rfl ?_
  refine x_iload (M := (M_law nm)) dL_law_2093 rfl ?_
  refine x_iconst (M := (M_law nm)) dL_law_2095 ?_
  refine x_iadd (M := (M_law nm)) dL_law_2096 ?_
  refine x_sald (M := (M_law nm)) dL_law_2097 (by decide) hx (vp_inD (by decide +kernel)) ?_
  refine x_top (M := (M_law nm)) (y := a1) ((congrArg xs (by decide +kernel : ((Int32.ofInt 1) + (Int32.ofInt 2)).toNatClampNeg = 3)).trans e3) ?_
  refine x_aload_n (M := (M_law nm)) dL_law_2098 rfl ?_
  refine y_callSW (M := (M_law nm)) (M' := M_L_count) rfl rfl dL_law_2099 m_L_count t_2291 t_2292 (q5184 hl c0 c1 c2 c3 c4 c5 c6 c7 c8 o5224 o5225 o5226) rfl rfl (Nat.le_of_ble_eq_true rfl) (Nat.le_of_ble_eq_true rfl) (Nat.le_of_ble_eq_true rfl) (Nat.le_of_ble_eq_true rfl) (fun h5227 f5228 w5229 => ?_)
  obtain ⟨o5230, -⟩ := w5229
  refine x_istore (M := (M_law nm)) dL_law_2102 (Nat.le_of_ble_eq_true rfl) rfl ?_
  refine x_aload_n (M := (M_law nm)) dL_law_2104 rfl ?_
  refine x_aload_n (M := (M_law nm)) dL_law_2105 rfl ?_
  refine x_iload (M := (M_law nm)) dL_law_2106 rfl ?_
  refine x_iconst (M := (M_law nm)) dL_law_2108 ?_
  refine x_iadd (M := (M_law nm)) dL_law_2109 ?_
  refine x_sald (M := (M_law nm)) dL_law_2110 (by decide) hx (vp_inD (by decide +kernel)) ?_
  refine x_top (M := (M_law nm)) (y := a0) ((congrArg xs (by decide +kernel : ((Int32.ofInt 1) + (Int32.ofInt 1)).toNatClampNeg = 2)).trans e2) ?_
  refine x_aload_n (M := (M_law nm)) dL_law_2111 rfl ?_
  refine x_iload (M := (M_law nm)) dL_law_2112 rfl ?_
  refine x_iconst (M := (M_law nm)) dL_law_2114 ?_
  refine x_iadd (M := (M_law nm)) dL_law_2115 ?_
  refine x_sald (M := (M_law nm)) dL_law_2116 (by decide) hx (vp_inD (by decide +kernel)) ?_
  refine x_top (M := (M_law nm)) (y := a1) ((congrArg xs (by decide +kernel : ((Int32.ofInt 1) + (Int32.ofInt 2)).toNatClampNeg = 3)).trans e3) ?_
  have o5243 := (f5228 277 _ (by decide) o5242)
  have o5245 := (f5228 280 _ (by decide) o5244)
  refine y_callVR (M := (M_law nm)) (M' := M_X12_count) rfl rfl dL_law_2117 m_X12_count t_3114 t_3115 t_3116 (q5241 hl c0 c1 c2 c3 c4 c5 c6 c7 c8 c9 o5243 o5245) rfl rfl o5243 rfl (Nat.le_of_ble_eq_true rfl) (Nat.le_of_ble_eq_true rfl) (Nat.le_of_ble_eq_true rfl) (Nat.le_of_ble_eq_true rfl) (fun h5246 f5247 w5248 => ?_)
  obtain ⟨o5249, -⟩ := w5248
  refine x_istore (M := (M_law nm)) dL_law_2120 (Nat.le_of_ble_eq_true rfl) rfl ?_
  refine x_aload_n (M := (M_law nm)) dL_law_2122 rfl ?_
  refine x_callVR (M := (M_law nm)) (M' := M_X12_thrown) rfl rfl dL_law_2123 m_X12_thrown t_2797 t_2798 t_2799 (q254 hl o5249) rfl rfl o5249 rfl (Nat.le_of_ble_eq_true rfl) (Nat.le_of_ble_eq_true rfl) (Nat.le_of_ble_eq_true rfl) (Nat.le_of_ble_eq_true rfl) ?_
  refine x_iload (M := (M_law nm)) dL_law_2126 rfl ?_
  refine x_icmp_eq (M := (M_law nm)) (tgt := 2133) dL_law_2128 (by decide) (fun _ => ?_) (fun q => absurd q (by decide +kernel))
  refine x_iload (M := (M_law nm)) dL_law_2133 rfl ?_
  refine x_if_ne (M := (M_law nm)) (tgt := 2150) dL_law_2135 (by decide) (fun q => absurd q (by decide +kernel)) (fun _ => ?_)
  refine x_aload_n (M := (M_law nm)) dL_law_2138 rfl ?_
  refine x_iconst (M := (M_law nm)) dL_law_2139 ?_
  have o5250 := (f5247 359 _ (by decide) o5230)
  refine x_lald (M := (M_law nm)) dL_law_2140 o5250 (vp_inD (by decide +kernel)) ?_
  refine x_topl (M := (M_law nm)) (y := (Int64.ofInt 0)) (by decide +kernel) ?_
  refine x_iload (M := (M_law nm)) dL_law_2141 rfl ?_
  refine x_i2l (M := (M_law nm)) dL_law_2143 ?_
  refine x_lcmp (M := (M_law nm)) dL_law_2144 ?_
  refine x_if_eq (M := (M_law nm)) (tgt := 2150) dL_law_2145 (by decide) (fun _ => ?_) (fun q => absurd q (by decide +kernel))
  refine x_goto (M := (M_law nm)) (tgt := 2449) dL_law_2150 (by decide) ?_
  refine x_iinc (M := (M_law nm)) dL_law_2449 rfl (Nat.le_of_ble_eq_true rfl) rfl ?_
  refine x_lvs (M := (M_law nm)) (lv' := [some (.ref 0), some (.ref 32), some (.ref 277), some (.ref 359), some (.int (Int32.ofInt 7)), some (.int (Int32.ofInt 0)), some (.int (Int32.ofInt 0)), none]) (by rw [(by decide +kernel : (Int32.ofInt 1) + Int32.ofInt 6 = (Int32.ofInt 7))] <;> rfl) ?_
  refine x_goto (M := (M_law nm)) (tgt := 33) dL_law_2452 (by decide) ?_
  refine x_iload (M := (M_law nm)) dL_law_33 rfl ?_
  refine x_aload_n (M := (M_law nm)) dL_law_35 rfl ?_
  refine x_slen (M := (M_law nm)) dL_law_36 (by decide) hx ?_
  refine x_bipush (M := (M_law nm)) dL_law_37 ?_
  refine x_isub (M := (M_law nm)) dL_law_39 ?_
  refine x_icmp_gt (M := (M_law nm)) (tgt := 2455) dL_law_40 (by decide) (fun _ => ?_) (fun q => absurd q (by decide +kernel))
  refine x_iconst (M := (M_law nm)) dL_law_2455 ?_
  exact x_zret (M := (M_law nm)) dL_law_2456 rfl (by decide) rfl (Nat.le_of_ble_eq_true rfl) (Nat.le_of_ble_eq_true rfl)
set_option maxRecDepth 10000 in
theorem q5255 {l : Launch} {E : EE} (hl : l.stackTraces = false) {h : HP} {a0 : Int32} {a1 : Int32} (c0 : ¬ (a0.toInt < 0)) (c1 : ¬ (a0.toInt < 32)) (o5251 : ob h 32 = some (.inr (14, [.ref 33, .ref 162, .ref 166, .int (0 : Int32), .int (0 : Int32), .int (0 : Int32), .ref 167, .ref 170, .ref 173, .ref 177, .ref 193, .ref 208, .ref 222, .ref 238, .ref 252, .ref 274, .ref 275, .ref 276, .int (0 : Int32)]))) : en_C l E M_X11_count 7 1 6 [.ref 32, .int a0, .int a1] h (pT "java/lang/IndexOutOfBoundsException" [] h (fun _ => True)) := by
  refine en_mk m_X11_count rfl hl (Nat.le_of_ble_eq_true rfl) ?_
  refine x_aload_n (M := M_X11_count) dX11_count_0 rfl ?_
  refine x_iload_n (M := M_X11_count) dX11_count_1 rfl ?_
  exact y_callVX (M := M_X11_count) (M' := M_X11_slotNumbered) rfl rfl dX11_count_2 m_X11_slotNumbered t_744 t_746 s_2 (q511 hl c0 c1) rfl rfl o5251 rfl (Nat.le_of_ble_eq_true rfl) (Nat.le_of_ble_eq_true rfl) (Nat.le_of_ble_eq_true rfl) (Nat.le_of_ble_eq_true rfl) (fun h5252 f5253 w5254 => ⟨rfl, (fr_tr f5253 (fun _ h => nomatch h) fr_rf), trivial⟩)
set_option maxRecDepth 10000 in
theorem q5260 {l : Launch} {E : EE} (hl : l.stackTraces = false) {h : HP} {a0 : Int32} {a1 : Int32} (c0 : ¬ (a0.toInt < 0)) (c1 : ¬ (a0.toInt < 32)) (o5256 : ob h 32 = some (.inr (14, [.ref 33, .ref 162, .ref 166, .int (0 : Int32), .int (0 : Int32), .int (0 : Int32), .ref 167, .ref 170, .ref 173, .ref 177, .ref 193, .ref 208, .ref 222, .ref 238, .ref 252, .ref 274, .ref 275, .ref 276, .int (0 : Int32)]))) : en_C l E M_L_count 8 1 6 [.ref 32, .int a0, .int a1, .ref 359] h (pF (some (.int (Int32.ofInt 1))) [] h (fun _ => True)) := by
  refine en_mkW m_L_count rfl hl (Nat.le_of_ble_eq_true rfl) ?_
  refine x_aload_n (M := M_L_count) dL_count_0 rfl ?_
  refine x_iconst (M := M_L_count) dL_count_1 ?_
  refine x_aload_n (M := M_L_count) dL_count_2 rfl ?_
  refine x_iload_n (M := M_L_count) dL_count_3 rfl ?_
  refine x_iload_n (M := M_L_count) dL_count_4 rfl ?_
  refine y_callVHX (M := M_L_count) (M' := M_X11_count) (i9 := 4) (nx := 15) rfl dL_count_5 m_X11_count t_2294 t_2295 t_2296 o5256 rfl (q5255 hl c0 c1 o5256) rfl rfl (Nat.le_of_ble_eq_true rfl) (Nat.le_of_ble_eq_true rfl) (Nat.le_of_ble_eq_true rfl) (Nat.le_of_ble_eq_true rfl) (en_hdm (k0 := 4) [] [] rfl (fun _ h => nomatch h) (by decide +kernel) (by decide) t_739 n_750 dL_count_13) (by decide) rfl (fun h5257 f5258 w5259 => ?_)
  refine x_iconst (M := M_L_count) dL_count_15 ?_
  exact x_iret (M := M_L_count) dL_count_16 rfl ⟨rfl, (fr_tr f5258 (fun _ h => nomatch h) fr_rf), trivial⟩ (Nat.le_of_ble_eq_true rfl) (Nat.le_of_ble_eq_true rfl)
set_option maxRecDepth 10000 in
theorem q5273 {l : Launch} {E : EE} (hl : l.stackTraces = false) {h : HP} {a0 : Int32} {a1 : Int32} {dg : Int32} (c0 : ¬ (a0.toInt < 0)) (c1 : ¬ (a0.toInt < 32)) (o5265 : ob h 277 = some (.inr (15, (RB dg)))) : en_C l E M_X12_count 1 0 0 [.ref 277, .int a0, .int a1] h (pF (some (.int (Int32.ofInt 0))) [277] h (fun h' => ob h' 277 = some (.inr (15, ((RB dg).set 0 (.int (Int32.ofInt 1))))) ∧ True)) := by
  refine en_mk m_X12_count rfl hl (Nat.le_of_ble_eq_true rfl) ?_
  refine x_aload_n (M := M_X12_count) dX12_count_0 rfl ?_
  refine x_iconst (M := M_X12_count) dX12_count_1 ?_
  refine y_put (M := M_X12_count) (ci := 15) (C := RX12) (T := TX12) (N := 135) (ty := tyX12) cl15 dX12_count_2 o5265 0 (by decide) t_2391 (Or.inl rfl) (Nat.le_of_ble_eq_true rfl) rfl (fun h5266 w5267 f5268 => ?_)
  refine x_aload_n (M := M_X12_count) dX12_count_5 rfl ?_
  refine x_iload_n (M := M_X12_count) dX12_count_6 rfl ?_
  refine x_callSR (M := M_X12_count) (M' := M_X12_isSlot) rfl rfl dX12_count_7 m_X12_isSlot t_2841 t_2842 (q530 hl c0 c1) rfl rfl (Nat.le_of_ble_eq_true rfl) (Nat.le_of_ble_eq_true rfl) (Nat.le_of_ble_eq_true rfl) (Nat.le_of_ble_eq_true rfl) ?_
  refine x_if_eq (M := M_X12_count) (tgt := 25) dX12_count_10 (by decide) (fun _ => ?_) (fun q => absurd q (by decide +kernel))
  refine x_iconst (M := M_X12_count) dX12_count_25 ?_
  refine x_goto (M := M_X12_count) (tgt := 30) dX12_count_26 (by decide) ?_
  refine x_iconst (M := M_X12_count) dX12_count_30 ?_
  refine y_callVR (M := M_X12_count) (M' := M_X12_fails) rfl rfl dX12_count_31 m_X12_fails t_2805 t_2807 s_157 (q22 hl w5267) rfl rfl w5267 rfl (Nat.le_of_ble_eq_true rfl) (Nat.le_of_ble_eq_true rfl) (Nat.le_of_ble_eq_true rfl) (Nat.le_of_ble_eq_true rfl) (fun h5269 f5270 w5271 => ?_)
  obtain ⟨o5272, -⟩ := w5271
  refine x_if_eq (M := M_X12_count) (tgt := 39) dX12_count_34 (by decide) (fun q => absurd q (by decide +kernel)) (fun _ => ?_)
  refine x_iconst (M := M_X12_count) dX12_count_37 ?_
  exact x_iret (M := M_X12_count) dX12_count_38 rfl ⟨rfl, (fr_tr f5270 (by decide) (fr_tr f5268 (by decide) fr_rf)), ⟨o5272, trivial⟩⟩ (Nat.le_of_ble_eq_true rfl) (Nat.le_of_ble_eq_true rfl)
set_option maxRecDepth 10000 in
theorem lc28_10 {l : Launch} {E : EE} (hl : l.stackTraces = false) (nm : String) {xs : Nat → Int32} (hx : E.2.2.2.2 0 = some (7, xs)) {h : HP} {a0 : Int32} {a1 : Int32} {dg : Int32} (e2 : xs 2 = a0) (e3 : xs 3 = a1) (c0 : ¬ (a0.toInt < 0)) (c1 : ¬ (a0.toInt < 32)) (o5261 : ob h 32 = some (.inr (14, [.ref 33, .ref 162, .ref 166, .int (0 : Int32), .int (0 : Int32), .int (0 : Int32), .ref 167, .ref 170, .ref 173, .ref 177, .ref 193, .ref 208, .ref 222, .ref 238, .ref 252, .ref 274, .ref 275, .ref 276, .int (0 : Int32)]))) (o5274 : ob h 277 = some (.inr (15, (RB dg)))) : XX l E (M_law nm) 1312 342628 8074320 (fun o _ => o = .inl (some (.int 1))) 2085 [some (.ref 0), some (.ref 32), some (.ref 277), some (.ref 359), some (.int (Int32.ofInt 1)), none, none, none] [] h 328 2463747 := by
  refine x_aload_n (M := (M_law nm)) dL_law_2085 rfl ?_
  refine x_aload_n (M := (M_law nm)) dL_law_2086 rfl ?_
  refine x_iload (M := (M_law nm)) dL_law_2087 rfl ?_
  refine x_iconst (M := (M_law nm)) dL_law_2089 ?_
  refine x_iadd (M := (M_law nm)) dL_law_2090 ?_
  refine x_sald (M := (M_law nm)) dL_law_2091 (by decide) hx (vp_inD (by decide +kernel)) ?_
  refine x_top (M := (M_law nm)) (y := a0) ((congrArg xs (by decide +kernel : ((Int32.ofInt 1) + (Int32.ofInt 1)).toNatClampNeg = 2)).trans e2) ?_
  refine x_aload_n (M := (M_law nm)) dL_law_2092 rfl ?_
  refine x_iload (M := (M_law nm)) dL_law_2093 rfl ?_
  refine x_iconst (M := (M_law nm)) dL_law_2095 ?_
  refine x_iadd (M := (M_law nm)) dL_law_2096 ?_
  refine x_sald (M := (M_law nm)) dL_law_2097 (by decide) hx (vp_inD (by decide +kernel)) ?_
  refine x_top (M := (M_law nm)) (y := a1) ((congrArg xs (by decide +kernel : ((Int32.ofInt 1) + (Int32.ofInt 2)).toNatClampNeg = 3)).trans e3) ?_
  refine x_aload_n (M := (M_law nm)) dL_law_2098 rfl ?_
  refine y_callSW (M := (M_law nm)) (M' := M_L_count) rfl rfl dL_law_2099 m_L_count t_2291 t_2292 (q5260 hl c0 c1 o5261) rfl rfl (Nat.le_of_ble_eq_true rfl) (Nat.le_of_ble_eq_true rfl) (Nat.le_of_ble_eq_true rfl) (Nat.le_of_ble_eq_true rfl) (fun h5262 f5263 w5264 => ?_)
  refine x_istore (M := (M_law nm)) dL_law_2102 (Nat.le_of_ble_eq_true rfl) rfl ?_
  refine x_aload_n (M := (M_law nm)) dL_law_2104 rfl ?_
  refine x_aload_n (M := (M_law nm)) dL_law_2105 rfl ?_
  refine x_iload (M := (M_law nm)) dL_law_2106 rfl ?_
  refine x_iconst (M := (M_law nm)) dL_law_2108 ?_
  refine x_iadd (M := (M_law nm)) dL_law_2109 ?_
  refine x_sald (M := (M_law nm)) dL_law_2110 (by decide) hx (vp_inD (by decide +kernel)) ?_
  refine x_top (M := (M_law nm)) (y := a0) ((congrArg xs (by decide +kernel : ((Int32.ofInt 1) + (Int32.ofInt 1)).toNatClampNeg = 2)).trans e2) ?_
  refine x_aload_n (M := (M_law nm)) dL_law_2111 rfl ?_
  refine x_iload (M := (M_law nm)) dL_law_2112 rfl ?_
  refine x_iconst (M := (M_law nm)) dL_law_2114 ?_
  refine x_iadd (M := (M_law nm)) dL_law_2115 ?_
  refine x_sald (M := (M_law nm)) dL_law_2116 (by decide) hx (vp_inD (by decide +kernel)) ?_
  refine x_top (M := (M_law nm)) (y := a1) ((congrArg xs (by decide +kernel : ((Int32.ofInt 1) + (Int32.ofInt 2)).toNatClampNeg = 3)).trans e3) ?_
  have o5275 := (f5263 277 _ (by decide) o5274)
  refine y_callVR (M := (M_law nm)) (M' := M_X12_count) rfl rfl dL_law_2117 m_X12_count t_3114 t_3115 t_3116 (q5273 hl c0 c1 o5275) rfl rfl o5275 rfl (Nat.le_of_ble_eq_true rfl) (Nat.le_of_ble_eq_true rfl) (Nat.le_of_ble_eq_true rfl) (Nat.le_of_ble_eq_true rfl) (fun h5276 f5277 w5278 => ?_)
  obtain ⟨o5279, -⟩ := w5278
  refine x_istore (M := (M_law nm)) dL_law_2120 (Nat.le_of_ble_eq_true rfl) rfl ?_
  refine x_aload_n (M := (M_law nm)) dL_law_2122 rfl ?_
  refine x_callVR (M := (M_law nm)) (M' := M_X12_thrown) rfl rfl dL_law_2123 m_X12_thrown t_2797 t_2798 t_2799 (q35 hl o5279) rfl rfl o5279 rfl (Nat.le_of_ble_eq_true rfl) (Nat.le_of_ble_eq_true rfl) (Nat.le_of_ble_eq_true rfl) (Nat.le_of_ble_eq_true rfl) ?_
  refine x_iload (M := (M_law nm)) dL_law_2126 rfl ?_
  refine x_icmp_eq (M := (M_law nm)) (tgt := 2133) dL_law_2128 (by decide) (fun _ => ?_) (fun q => absurd q (by decide +kernel))
  refine x_iload (M := (M_law nm)) dL_law_2133 rfl ?_
  refine x_if_ne (M := (M_law nm)) (tgt := 2150) dL_law_2135 (by decide) (fun _ => ?_) (fun q => absurd q (by decide +kernel))
  refine x_goto (M := (M_law nm)) (tgt := 2449) dL_law_2150 (by decide) ?_
  refine x_iinc (M := (M_law nm)) dL_law_2449 rfl (Nat.le_of_ble_eq_true rfl) rfl ?_
  refine x_lvs (M := (M_law nm)) (lv' := [some (.ref 0), some (.ref 32), some (.ref 277), some (.ref 359), some (.int (Int32.ofInt 7)), some (.int (Int32.ofInt 1)), some (.int (Int32.ofInt 0)), none]) (by rw [(by decide +kernel : (Int32.ofInt 1) + Int32.ofInt 6 = (Int32.ofInt 7))] <;> rfl) ?_
  refine x_goto (M := (M_law nm)) (tgt := 33) dL_law_2452 (by decide) ?_
  refine x_iload (M := (M_law nm)) dL_law_33 rfl ?_
  refine x_aload_n (M := (M_law nm)) dL_law_35 rfl ?_
  refine x_slen (M := (M_law nm)) dL_law_36 (by decide) hx ?_
  refine x_bipush (M := (M_law nm)) dL_law_37 ?_
  refine x_isub (M := (M_law nm)) dL_law_39 ?_
  refine x_icmp_gt (M := (M_law nm)) (tgt := 2455) dL_law_40 (by decide) (fun _ => ?_) (fun q => absurd q (by decide +kernel))
  refine x_iconst (M := (M_law nm)) dL_law_2455 ?_
  exact x_zret (M := (M_law nm)) dL_law_2456 rfl (by decide) rfl (Nat.le_of_ble_eq_true rfl) (Nat.le_of_ble_eq_true rfl)
theorem lop28 {l : Launch} {E : EE} (hl : l.stackTraces = false) (nm : String) {xs : Nat → Int32} (hx : E.2.2.2.2 0 = some (7, xs)) (dg : Int32) : XX l E (M_law nm) 1312 342628 8074320 (fun o _ => o = .inl (some (.int 1))) 2085 [some (.ref 0), some (.ref 32), some (.ref 277), some (.ref 359), some (.int (Int32.ofInt 1)), none, none, none] [] (HH dg) 328 2463747 := by
  obtain ⟨a0, e2⟩ : ∃ a : Int32, xs 2 = a := ⟨_, rfl⟩
  obtain ⟨a1, e3⟩ : ∃ a : Int32, xs 3 = a := ⟨_, rfl⟩
  obtain ⟨a2, e4⟩ : ∃ a : Int32, xs 4 = a := ⟨_, rfl⟩
  obtain ⟨a3, e5⟩ : ∃ a : Int32, xs 5 = a := ⟨_, rfl⟩
  obtain ⟨a4, e6⟩ : ∃ a : Int32, xs 6 = a := ⟨_, rfl⟩
  by_cases c0 : a0.toInt < 0
  · exact lc28_0 hl nm hx e2 e3 c0 (o_32 dg) (o_277b dg)
  · by_cases c1 : a0.toInt < 32
    · by_cases c2 : a1.toInt < 0
      · exact lc28_1 hl nm hx e2 e3 c0 c1 c2 (o_32 dg) (o_33 dg) (o_277b dg)
      · by_cases c3 : 5 < a1.toInt
        · exact lc28_2 hl nm hx e2 e3 c0 c1 c2 c3 (o_32 dg) (o_33 dg) (o_277b dg)
        · by_cases c4 : a1.toInt = 0
          · have n_a0 : a0.toNatClampNeg < 32 := nc_lt (by omega) (by decide)
            exact lc28_3 hl nm hx e2 e3 c0 c1 c2 c3 c4 (o_32 dg) (o_33 dg) (o_sh dg a0.toNatClampNeg n_a0) (o_359 dg) (o_277b dg) (oMR (dg := dg) (k := 2) rfl)
          · by_cases c5 : a1.toInt = 1
            · have n_a0 : a0.toNatClampNeg < 32 := nc_lt (by omega) (by decide)
              exact lc28_4 hl nm hx e2 e3 c0 c1 c2 c3 c4 c5 (o_32 dg) (o_33 dg) (o_sh dg a0.toNatClampNeg n_a0) (o_359 dg) (o_277b dg) (oMR (dg := dg) (k := 4) rfl)
            · by_cases c6 : a1.toInt = 2
              · exact lc28_5 hl nm hx e2 e3 c0 c1 c2 c3 c4 c5 c6 (o_32 dg) (o_33 dg) (o_359 dg) (o_277b dg)
              · by_cases c7 : a1.toInt = 3
                · exact lc28_6 hl nm hx e2 e3 c0 c1 c2 c3 c4 c5 c6 c7 (o_32 dg) (o_33 dg) (o_173 dg) (o_359 dg) (o_277b dg)
                · by_cases c8 : a1.toInt = 4
                  · exact lc28_7 hl nm hx e2 e3 c0 c1 c2 c3 c4 c5 c6 c7 c8 (o_32 dg) (o_33 dg) (o_sh dg 0 (by decide)) (o_sh dg 1 (by decide)) (o_sh dg 2 (by decide)) (o_sh dg 3 (by decide)) (o_sh dg 4 (by decide)) (o_sh dg 5 (by decide)) (o_sh dg 6 (by decide)) (o_sh dg 7 (by decide)) (o_sh dg 8 (by decide)) (o_sh dg 9 (by decide)) (o_sh dg 10 (by decide)) (o_sh dg 11 (by decide)) (o_sh dg 12 (by decide)) (o_sh dg 13 (by decide)) (o_sh dg 14 (by decide)) (o_sh dg 15 (by decide)) (o_sh dg 16 (by decide)) (o_sh dg 17 (by decide)) (o_sh dg 18 (by decide)) (o_sh dg 19 (by decide)) (o_sh dg 20 (by decide)) (o_sh dg 21 (by decide)) (o_sh dg 22 (by decide)) (o_sh dg 23 (by decide)) (o_sh dg 24 (by decide)) (o_sh dg 25 (by decide)) (o_sh dg 26 (by decide)) (o_sh dg 27 (by decide)) (o_sh dg 28 (by decide)) (o_sh dg 29 (by decide)) (o_sh dg 30 (by decide)) (o_sh dg 31 (by decide)) (o_359 dg) (o_277b dg) (oMR (dg := dg) (k := 2) rfl)
                  · by_cases c9 : 4 < a1.toInt
                    · exact lc28_8 hl nm hx e2 e3 c0 c1 c2 c3 c4 c5 c6 c7 c8 c9 (o_32 dg) (o_33 dg) (o_359 dg) (o_277b dg)
                    · exact lc28_9 hl nm hx e2 e3 c0 c1 c2 c3 c4 c5 c6 c7 c8 c9 (o_32 dg) (o_33 dg) (o_359 dg) (o_277b dg) (oMR (dg := dg) (k := 2) rfl)
    · exact lc28_10 hl nm hx e2 e3 c0 c1 (o_32 dg) (o_277b dg)
end CAS
