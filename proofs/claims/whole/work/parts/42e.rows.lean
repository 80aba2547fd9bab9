theorem dX8_snap_0 : decode cX8_snap 0 = .ok (.aload_n 0, 1) := by decide +kernel
theorem dX8_snap_1 : decode cX8_snap 1 = .ok (.getfield 14, 3) := by decide +kernel
theorem dX8_snap_4 : decode cX8_snap 4 = .ok (.iconst 0, 1) := by decide +kernel
theorem dX8_snap_5 : decode cX8_snap 5 = .ok (.putfield 44, 3) := by decide +kernel
theorem dX8_snap_8 : decode cX8_snap 8 = .ok (.aload_n 0, 1) := by decide +kernel
theorem dX8_snap_9 : decode cX8_snap 9 = .ok (.iconst 0, 1) := by decide +kernel
theorem dX8_snap_10 : decode cX8_snap 10 = .ok (.putfield 48, 3) := by decide +kernel
theorem dX8_snap_13 : decode cX8_snap 13 = .ok (.aload_n 0, 1) := by decide +kernel
theorem dX8_snap_14 : decode cX8_snap 14 = .ok (.iconst 0, 1) := by decide +kernel
theorem dX8_snap_15 : decode cX8_snap 15 = .ok (.putfield 51, 3) := by decide +kernel
theorem dX8_snap_18 : decode cX8_snap 18 = .ok (.aload_n 0, 1) := by decide +kernel
theorem dX8_snap_19 : decode cX8_snap 19 = .ok (.aload_n 1, 1) := by decide +kernel
theorem dX8_snap_20 : decode cX8_snap 20 = .ok (.iconst 1, 1) := by decide +kernel
theorem dX8_snap_21 : decode cX8_snap 21 = .ok (.invokevirtual 54, 3) := by decide +kernel
theorem dX8_snap_24 : decode cX8_snap 24 = .ok (.ifCond .eq 37, 3) := by decide +kernel
theorem dX8_snap_27 : decode cX8_snap 27 = .ok (.aload_n 0, 1) := by decide +kernel
theorem dX8_snap_28 : decode cX8_snap 28 = .ok (.aload_n 2, 1) := by decide +kernel
theorem dX8_snap_29 : decode cX8_snap 29 = .ok (.iconst 2, 1) := by decide +kernel
theorem dX8_snap_30 : decode cX8_snap 30 = .ok (.invokevirtual 54, 3) := by decide +kernel
theorem dX8_snap_33 : decode cX8_snap 33 = .ok (.ifCond .eq 28, 3) := by decide +kernel
theorem dX8_snap_36 : decode cX8_snap 36 = .ok (.aload_n 0, 1) := by decide +kernel
theorem dX8_snap_37 : decode cX8_snap 37 = .ok (.invokevirtual 58, 3) := by decide +kernel
theorem dX8_snap_40 : decode cX8_snap 40 = .ok (.ifCond .eq 21, 3) := by decide +kernel
theorem dX8_snap_43 : decode cX8_snap 43 = .ok (.aload_n 0, 1) := by decide +kernel
theorem dX8_snap_44 : decode cX8_snap 44 = .ok (.invokevirtual 62, 3) := by decide +kernel
theorem dX8_snap_47 : decode cX8_snap 47 = .ok (.ifCond .eq 14, 3) := by decide +kernel
theorem dX8_snap_50 : decode cX8_snap 50 = .ok (.aload_n 0, 1) := by decide +kernel
theorem dX8_snap_51 : decode cX8_snap 51 = .ok (.invokevirtual 65, 3) := by decide +kernel
theorem dX8_snap_54 : decode cX8_snap 54 = .ok (.ifCond .eq 7, 3) := by decide +kernel
theorem dX8_snap_57 : decode cX8_snap 57 = .ok (.iconst 1, 1) := by decide +kernel
theorem dX8_snap_58 : decode cX8_snap 58 = .ok (.goto 4, 3) := by decide +kernel
theorem dX8_snap_61 : decode cX8_snap 61 = .ok (.iconst 0, 1) := by decide +kernel
theorem dX8_snap_62 : decode cX8_snap 62 = .ok (.ireturn, 1) := by decide +kernel
abbrev M_X8_snap : MRec := (yX8_snap, cX8_snap, 3, (some Jvm.ClassFile.FieldType.boolean), [])
theorem m_X8_snap : en_M M_X8_snap 2 := ⟨t_1395, t_9, ⟨by decide +kernel, by decide +kernel⟩, by decide +kernel, by decide +kernel, by decide +kernel⟩
theorem dX11_isBeyond_0 : decode cX11_isBeyond 0 = .ok (.iload_n 0, 1) := by decide +kernel
theorem dX11_isBeyond_1 : decode cX11_isBeyond 1 = .ok (.iload_n 1, 1) := by decide +kernel
theorem dX11_isBeyond_2 : decode cX11_isBeyond 2 = .ok (.ineg, 1) := by decide +kernel
theorem dX11_isBeyond_3 : decode cX11_isBeyond 3 = .ok (.if_icmp .lt 8, 3) := by decide +kernel
theorem dX11_isBeyond_6 : decode cX11_isBeyond 6 = .ok (.iload_n 0, 1) := by decide +kernel
theorem dX11_isBeyond_7 : decode cX11_isBeyond 7 = .ok (.iload_n 1, 1) := by decide +kernel
theorem dX11_isBeyond_8 : decode cX11_isBeyond 8 = .ok (.if_icmp .le 7, 3) := by decide +kernel
theorem dX11_isBeyond_11 : decode cX11_isBeyond 11 = .ok (.iconst 1, 1) := by decide +kernel
theorem dX11_isBeyond_12 : decode cX11_isBeyond 12 = .ok (.goto 4, 3) := by decide +kernel
theorem dX11_isBeyond_15 : decode cX11_isBeyond 15 = .ok (.iconst 0, 1) := by decide +kernel
theorem dX11_isBeyond_16 : decode cX11_isBeyond 16 = .ok (.ireturn, 1) := by decide +kernel
abbrev M_X11_isBeyond : MRec := (yX11_isBeyond, cX11_isBeyond, 2, (some Jvm.ClassFile.FieldType.boolean), [])
theorem m_X11_isBeyond : en_M M_X11_isBeyond 2 := ⟨t_1387, t_1, ⟨by decide +kernel, by decide +kernel⟩, by decide +kernel, by decide +kernel, by decide +kernel⟩
theorem dX6_liesWithin_0 : decode cX6_liesWithin 0 = .ok (.iconst 0, 1) := by decide +kernel
theorem dX6_liesWithin_1 : decode cX6_liesWithin 1 = .ok (.istore_n 2, 1) := by decide +kernel
theorem dX6_liesWithin_2 : decode cX6_liesWithin 2 = .ok (.iload_n 2, 1) := by decide +kernel
theorem dX6_liesWithin_3 : decode cX6_liesWithin 3 = .ok (.aload_n 0, 1) := by decide +kernel
theorem dX6_liesWithin_4 : decode cX6_liesWithin 4 = .ok (.getfield 25, 3) := by decide +kernel
theorem dX6_liesWithin_7 : decode cX6_liesWithin 7 = .ok (.if_icmp .ge 37, 3) := by decide +kernel
theorem dX6_liesWithin_10 : decode cX6_liesWithin 10 = .ok (.aload_n 0, 1) := by decide +kernel
theorem dX6_liesWithin_11 : decode cX6_liesWithin 11 = .ok (.getfield 15, 3) := by decide +kernel
theorem dX6_liesWithin_14 : decode cX6_liesWithin 14 = .ok (.iload_n 2, 1) := by decide +kernel
theorem dX6_liesWithin_15 : decode cX6_liesWithin 15 = .ok (.iaload, 1) := by decide +kernel
theorem dX6_liesWithin_16 : decode cX6_liesWithin 16 = .ok (.iload_n 1, 1) := by decide +kernel
theorem dX6_liesWithin_17 : decode cX6_liesWithin 17 = .ok (.invokestatic 46, 3) := by decide +kernel
theorem dX6_liesWithin_20 : decode cX6_liesWithin 20 = .ok (.ifCond .ne 16, 3) := by decide +kernel
theorem dX6_liesWithin_23 : decode cX6_liesWithin 23 = .ok (.aload_n 0, 1) := by decide +kernel
theorem dX6_liesWithin_24 : decode cX6_liesWithin 24 = .ok (.getfield 18, 3) := by decide +kernel
theorem dX6_liesWithin_27 : decode cX6_liesWithin 27 = .ok (.iload_n 2, 1) := by decide +kernel
theorem dX6_liesWithin_28 : decode cX6_liesWithin 28 = .ok (.iaload, 1) := by decide +kernel
theorem dX6_liesWithin_29 : decode cX6_liesWithin 29 = .ok (.iload_n 1, 1) := by decide +kernel
theorem dX6_liesWithin_30 : decode cX6_liesWithin 30 = .ok (.invokestatic 46, 3) := by decide +kernel
theorem dX6_liesWithin_33 : decode cX6_liesWithin 33 = .ok (.ifCond .eq 5, 3) := by decide +kernel
theorem dX6_liesWithin_36 : decode cX6_liesWithin 36 = .ok (.iconst 0, 1) := by decide +kernel
theorem dX6_liesWithin_37 : decode cX6_liesWithin 37 = .ok (.ireturn, 1) := by decide +kernel
theorem dX6_liesWithin_38 : decode cX6_liesWithin 38 = .ok (.iinc 2 1, 3) := by decide +kernel
theorem dX6_liesWithin_41 : decode cX6_liesWithin 41 = .ok (.goto (-39), 3) := by decide +kernel
theorem dX6_liesWithin_44 : decode cX6_liesWithin 44 = .ok (.iconst 1, 1) := by decide +kernel
theorem dX6_liesWithin_45 : decode cX6_liesWithin 45 = .ok (.ireturn, 1) := by decide +kernel
abbrev M_X6_liesWithin : MRec := (yX6_liesWithin, cX6_liesWithin, 3, (some Jvm.ClassFile.FieldType.boolean), [])
theorem m_X6_liesWithin : en_M M_X6_liesWithin 1 := ⟨t_1384, t_2, ⟨by decide +kernel, by decide +kernel⟩, by decide +kernel, by decide +kernel, by decide +kernel⟩
theorem dX11_canBeLaidOver_0 : decode cX11_canBeLaidOver 0 = .ok (.aload_n 0, 1) := by decide +kernel
theorem dX11_canBeLaidOver_1 : decode cX11_canBeLaidOver 1 = .ok (.invokevirtual 168, 3) := by decide +kernel
theorem dX11_canBeLaidOver_4 : decode cX11_canBeLaidOver 4 = .ok (.istore_n 1, 1) := by decide +kernel
theorem dX11_canBeLaidOver_5 : decode cX11_canBeLaidOver 5 = .ok (.iload_n 1, 1) := by decide +kernel
theorem dX11_canBeLaidOver_6 : decode cX11_canBeLaidOver 6 = .ok (.iconst 3, 1) := by decide +kernel
theorem dX11_canBeLaidOver_7 : decode cX11_canBeLaidOver 7 = .ok (.if_icmp .eq 9, 3) := by decide +kernel
theorem dX11_canBeLaidOver_10 : decode cX11_canBeLaidOver 10 = .ok (.iload_n 1, 1) := by decide +kernel
theorem dX11_canBeLaidOver_11 : decode cX11_canBeLaidOver 11 = .ok (.bipush 6, 2) := by decide +kernel
theorem dX11_canBeLaidOver_13 : decode cX11_canBeLaidOver 13 = .ok (.if_icmp .ne 12, 3) := by decide +kernel
theorem dX11_canBeLaidOver_16 : decode cX11_canBeLaidOver 16 = .ok (.aload_n 0, 1) := by decide +kernel
theorem dX11_canBeLaidOver_17 : decode cX11_canBeLaidOver 17 = .ok (.ldc 235, 2) := by decide +kernel
theorem dX11_canBeLaidOver_19 : decode cX11_canBeLaidOver 19 = .ok (.invokevirtual 236, 3) := by decide +kernel
theorem dX11_canBeLaidOver_22 : decode cX11_canBeLaidOver 22 = .ok (.ifCond .ne 5, 3) := by decide +kernel
theorem dX11_canBeLaidOver_25 : decode cX11_canBeLaidOver 25 = .ok (.iconst 0, 1) := by decide +kernel
theorem dX11_canBeLaidOver_26 : decode cX11_canBeLaidOver 26 = .ok (.ireturn, 1) := by decide +kernel
theorem dX11_canBeLaidOver_27 : decode cX11_canBeLaidOver 27 = .ok (.iconst 0, 1) := by decide +kernel
theorem dX11_canBeLaidOver_28 : decode cX11_canBeLaidOver 28 = .ok (.istore_n 2, 1) := by decide +kernel
theorem dX11_canBeLaidOver_29 : decode cX11_canBeLaidOver 29 = .ok (.iconst 0, 1) := by decide +kernel
theorem dX11_canBeLaidOver_30 : decode cX11_canBeLaidOver 30 = .ok (.istore_n 3, 1) := by decide +kernel
theorem dX11_canBeLaidOver_31 : decode cX11_canBeLaidOver 31 = .ok (.iload_n 3, 1) := by decide +kernel
theorem dX11_canBeLaidOver_32 : decode cX11_canBeLaidOver 32 = .ok (.iconst 1, 1) := by decide +kernel
theorem dX11_canBeLaidOver_33 : decode cX11_canBeLaidOver 33 = .ok (.iadd, 1) := by decide +kernel
theorem dX11_canBeLaidOver_34 : decode cX11_canBeLaidOver 34 = .ok (.aload_n 0, 1) := by decide +kernel
theorem dX11_canBeLaidOver_35 : decode cX11_canBeLaidOver 35 = .ok (.getfield 195, 3) := by decide +kernel
theorem dX11_canBeLaidOver_38 : decode cX11_canBeLaidOver 38 = .ok (.if_icmp .ge 57, 3) := by decide +kernel
theorem dX11_canBeLaidOver_41 : decode cX11_canBeLaidOver 41 = .ok (.iconst 0, 1) := by decide +kernel
theorem dX11_canBeLaidOver_42 : decode cX11_canBeLaidOver 42 = .ok (.istore 4, 2) := by decide +kernel
theorem dX11_canBeLaidOver_44 : decode cX11_canBeLaidOver 44 = .ok (.iload 4, 2) := by decide +kernel
theorem dX11_canBeLaidOver_46 : decode cX11_canBeLaidOver 46 = .ok (.aload_n 0, 1) := by decide +kernel
theorem dX11_canBeLaidOver_47 : decode cX11_canBeLaidOver 47 = .ok (.iload_n 3, 1) := by decide +kernel
theorem dX11_canBeLaidOver_48 : decode cX11_canBeLaidOver 48 = .ok (.invokevirtual 240, 3) := by decide +kernel
theorem dX11_canBeLaidOver_51 : decode cX11_canBeLaidOver 51 = .ok (.if_icmp .ge 35, 3) := by decide +kernel
theorem dX11_canBeLaidOver_54 : decode cX11_canBeLaidOver 54 = .ok (.aload_n 0, 1) := by decide +kernel
theorem dX11_canBeLaidOver_55 : decode cX11_canBeLaidOver 55 = .ok (.iload_n 3, 1) := by decide +kernel
theorem dX11_canBeLaidOver_56 : decode cX11_canBeLaidOver 56 = .ok (.iload 4, 2) := by decide +kernel
theorem dX11_canBeLaidOver_58 : decode cX11_canBeLaidOver 58 = .ok (.invokevirtual 244, 3) := by decide +kernel
theorem dX11_canBeLaidOver_61 : decode cX11_canBeLaidOver 61 = .ok (.istore 5, 2) := by decide +kernel
theorem dX11_canBeLaidOver_63 : decode cX11_canBeLaidOver 63 = .ok (.aload_n 0, 1) := by decide +kernel
theorem dX11_canBeLaidOver_64 : decode cX11_canBeLaidOver 64 = .ok (.iload_n 2, 1) := by decide +kernel
theorem dX11_canBeLaidOver_65 : decode cX11_canBeLaidOver 65 = .ok (.iload 5, 2) := by decide +kernel
theorem dX11_canBeLaidOver_67 : decode cX11_canBeLaidOver 67 = .ok (.invokevirtual 247, 3) := by decide +kernel
theorem dX11_canBeLaidOver_70 : decode cX11_canBeLaidOver 70 = .ok (.ifCond .ne 5, 3) := by decide +kernel
theorem dX11_canBeLaidOver_73 : decode cX11_canBeLaidOver 73 = .ok (.iconst 0, 1) := by decide +kernel
theorem dX11_canBeLaidOver_74 : decode cX11_canBeLaidOver 74 = .ok (.ireturn, 1) := by decide +kernel
theorem dX11_canBeLaidOver_75 : decode cX11_canBeLaidOver 75 = .ok (.iload_n 2, 1) := by decide +kernel
theorem dX11_canBeLaidOver_76 : decode cX11_canBeLaidOver 76 = .ok (.iload 5, 2) := by decide +kernel
theorem dX11_canBeLaidOver_78 : decode cX11_canBeLaidOver 78 = .ok (.iadd, 1) := by decide +kernel
theorem dX11_canBeLaidOver_79 : decode cX11_canBeLaidOver 79 = .ok (.istore_n 2, 1) := by decide +kernel
theorem dX11_canBeLaidOver_80 : decode cX11_canBeLaidOver 80 = .ok (.iinc 4 1, 3) := by decide +kernel
theorem dX11_canBeLaidOver_83 : decode cX11_canBeLaidOver 83 = .ok (.goto (-39), 3) := by decide +kernel
theorem dX11_canBeLaidOver_86 : decode cX11_canBeLaidOver 86 = .ok (.aload_n 0, 1) := by decide +kernel
theorem dX11_canBeLaidOver_87 : decode cX11_canBeLaidOver 87 = .ok (.iload_n 3, 1) := by decide +kernel
theorem dX11_canBeLaidOver_88 : decode cX11_canBeLaidOver 88 = .ok (.invokevirtual 251, 3) := by decide +kernel
theorem dX11_canBeLaidOver_91 : decode cX11_canBeLaidOver 91 = .ok (.istore_n 3, 1) := by decide +kernel
theorem dX11_canBeLaidOver_92 : decode cX11_canBeLaidOver 92 = .ok (.goto (-61), 3) := by decide +kernel
theorem dX11_canBeLaidOver_95 : decode cX11_canBeLaidOver 95 = .ok (.iconst 1, 1) := by decide +kernel
theorem dX11_canBeLaidOver_96 : decode cX11_canBeLaidOver 96 = .ok (.ireturn, 1) := by decide +kernel
abbrev M_X11_canBeLaidOver : MRec := (yX11_canBeLaidOver, cX11_canBeLaidOver, 6, (some Jvm.ClassFile.FieldType.boolean), [])
theorem m_X11_canBeLaidOver : en_M M_X11_canBeLaidOver 1 := ⟨t_1379, t_1, ⟨by decide +kernel, by decide +kernel⟩, by decide +kernel, by decide +kernel, by decide +kernel⟩
theorem dX11_overlay_0 : decode cX11_overlay 0 = .ok (.aload_n 0, 1) := by decide +kernel
theorem dX11_overlay_1 : decode cX11_overlay 1 = .ok (.iload_n 2, 1) := by decide +kernel
theorem dX11_overlay_2 : decode cX11_overlay 2 = .ok (.invokevirtual 140, 3) := by decide +kernel
theorem dX11_overlay_5 : decode cX11_overlay 5 = .ok (.astore 5, 2) := by decide +kernel
theorem dX11_overlay_7 : decode cX11_overlay 7 = .ok (.aload_n 0, 1) := by decide +kernel
theorem dX11_overlay_8 : decode cX11_overlay 8 = .ok (.iload_n 3, 1) := by decide +kernel
theorem dX11_overlay_9 : decode cX11_overlay 9 = .ok (.invokevirtual 140, 3) := by decide +kernel
theorem dX11_overlay_12 : decode cX11_overlay 12 = .ok (.astore 6, 2) := by decide +kernel
theorem dX11_overlay_14 : decode cX11_overlay 14 = .ok (.aload_n 0, 1) := by decide +kernel
theorem dX11_overlay_15 : decode cX11_overlay 15 = .ok (.iload 4, 2) := by decide +kernel
theorem dX11_overlay_17 : decode cX11_overlay 17 = .ok (.invokevirtual 140, 3) := by decide +kernel
theorem dX11_overlay_20 : decode cX11_overlay 20 = .ok (.astore 7, 2) := by decide +kernel
theorem dX11_overlay_22 : decode cX11_overlay 22 = .ok (.aload 5, 2) := by decide +kernel
theorem dX11_overlay_24 : decode cX11_overlay 24 = .ok (.invokestatic 172, 3) := by decide +kernel
theorem dX11_overlay_27 : decode cX11_overlay 27 = .ok (.aload 6, 2) := by decide +kernel
theorem dX11_overlay_29 : decode cX11_overlay 29 = .ok (.invokestatic 172, 3) := by decide +kernel
theorem dX11_overlay_32 : decode cX11_overlay 32 = .ok (.iload_n 1, 1) := by decide +kernel
theorem dX11_overlay_33 : decode cX11_overlay 33 = .ok (.ifCond .lt 24, 3) := by decide +kernel
theorem dX11_overlay_36 : decode cX11_overlay 36 = .ok (.iload_n 1, 1) := by decide +kernel
theorem dX11_overlay_37 : decode cX11_overlay 37 = .ok (.iconst 5, 1) := by decide +kernel
theorem dX11_overlay_38 : decode cX11_overlay 38 = .ok (.if_icmp .ge 19, 3) := by decide +kernel
theorem dX11_overlay_41 : decode cX11_overlay 41 = .ok (.aload 5, 2) := by decide +kernel
theorem dX11_overlay_43 : decode cX11_overlay 43 = .ok (.invokestatic 221, 3) := by decide +kernel
theorem dX11_overlay_46 : decode cX11_overlay 46 = .ok (.ifCond .eq 11, 3) := by decide +kernel
theorem dX11_overlay_49 : decode cX11_overlay 49 = .ok (.aload 6, 2) := by decide +kernel
theorem dX11_overlay_51 : decode cX11_overlay 51 = .ok (.invokestatic 221, 3) := by decide +kernel
theorem dX11_overlay_54 : decode cX11_overlay 54 = .ok (.ifCond .ne 11, 3) := by decide +kernel
theorem dX11_overlay_57 : decode cX11_overlay 57 = .ok (.new 116, 3) := by decide +kernel
theorem dX11_overlay_60 : decode cX11_overlay 60 = .ok (.dup, 1) := by decide +kernel
theorem dX11_overlay_61 : decode cX11_overlay 61 = .ok (.invokespecial 118, 3) := by decide +kernel
theorem dX11_overlay_64 : decode cX11_overlay 64 = .ok (.athrow, 1) := by decide +kernel
theorem dX11_overlay_65 : decode cX11_overlay 65 = .ok (.aload_n 0, 1) := by decide +kernel
theorem dX11_overlay_66 : decode cX11_overlay 66 = .ok (.getfield 60, 3) := by decide +kernel
theorem dX11_overlay_69 : decode cX11_overlay 69 = .ok (.aload 5, 2) := by decide +kernel
theorem dX11_overlay_71 : decode cX11_overlay 71 = .ok (.aload 6, 2) := by decide +kernel
theorem dX11_overlay_73 : decode cX11_overlay 73 = .ok (.invokevirtual 224, 3) := by decide +kernel
theorem dX11_overlay_76 : decode cX11_overlay 76 = .ok (.ifCond .eq 18, 3) := by decide +kernel
theorem dX11_overlay_79 : decode cX11_overlay 79 = .ok (.aload_n 0, 1) := by decide +kernel
theorem dX11_overlay_80 : decode cX11_overlay 80 = .ok (.getfield 69, 3) := by decide +kernel
theorem dX11_overlay_83 : decode cX11_overlay 83 = .ok (.iload_n 1, 1) := by decide +kernel
theorem dX11_overlay_84 : decode cX11_overlay 84 = .ok (.aload_n 0, 1) := by decide +kernel
theorem dX11_overlay_85 : decode cX11_overlay 85 = .ok (.getfield 16, 3) := by decide +kernel
theorem dX11_overlay_88 : decode cX11_overlay 88 = .ok (.invokevirtual 228, 3) := by decide +kernel
theorem dX11_overlay_91 : decode cX11_overlay 91 = .ok (.ifCond .ne 11, 3) := by decide +kernel
theorem dX11_overlay_94 : decode cX11_overlay 94 = .ok (.new 232, 3) := by decide +kernel
theorem dX11_overlay_97 : decode cX11_overlay 97 = .ok (.dup, 1) := by decide +kernel
theorem dX11_overlay_98 : decode cX11_overlay 98 = .ok (.invokespecial 234, 3) := by decide +kernel
theorem dX11_overlay_101 : decode cX11_overlay 101 = .ok (.athrow, 1) := by decide +kernel
theorem dX11_overlay_102 : decode cX11_overlay 102 = .ok (.aload 7, 2) := by decide +kernel
theorem dX11_overlay_104 : decode cX11_overlay 104 = .ok (.aload_n 0, 1) := by decide +kernel
theorem dX11_overlay_105 : decode cX11_overlay 105 = .ok (.getfield 16, 3) := by decide +kernel
theorem dX11_overlay_108 : decode cX11_overlay 108 = .ok (.invokevirtual 188, 3) := by decide +kernel
theorem dX11_overlay_111 : decode cX11_overlay 111 = .ok (.aload 7, 2) := by decide +kernel
theorem dX11_overlay_113 : decode cX11_overlay 113 = .ok (.getfield 198, 3) := by decide +kernel
theorem dX11_overlay_116 : decode cX11_overlay 116 = .ok (.iconst 1, 1) := by decide +kernel
theorem dX11_overlay_117 : decode cX11_overlay 117 = .ok (.iaload, 1) := by decide +kernel
theorem dX11_overlay_118 : decode cX11_overlay 118 = .ok (.ireturn, 1) := by decide +kernel
abbrev M_X11_overlay : MRec := (yX11_overlay, cX11_overlay, 8, (some Jvm.ClassFile.FieldType.int), [])
theorem m_X11_overlay : en_M M_X11_overlay 4 := ⟨t_1376, t_1, ⟨by decide +kernel, by decide +kernel⟩, by decide +kernel, by decide +kernel, by decide +kernel⟩
theorem dX11_canBeRelated_0 : decode cX11_canBeRelated 0 = .ok (.aload_n 0, 1) := by decide +kernel
theorem dX11_canBeRelated_1 : decode cX11_canBeRelated 1 = .ok (.invokevirtual 168, 3) := by decide +kernel
theorem dX11_canBeRelated_4 : decode cX11_canBeRelated 4 = .ok (.bipush 7, 2) := by decide +kernel
theorem dX11_canBeRelated_6 : decode cX11_canBeRelated 6 = .ok (.if_icmp .eq 16, 3) := by decide +kernel
theorem dX11_canBeRelated_9 : decode cX11_canBeRelated 9 = .ok (.aload_n 0, 1) := by decide +kernel
theorem dX11_canBeRelated_10 : decode cX11_canBeRelated 10 = .ok (.ldc 235, 2) := by decide +kernel
theorem dX11_canBeRelated_12 : decode cX11_canBeRelated 12 = .ok (.invokevirtual 236, 3) := by decide +kernel
theorem dX11_canBeRelated_15 : decode cX11_canBeRelated 15 = .ok (.ifCond .eq 7, 3) := by decide +kernel
theorem dX11_canBeRelated_18 : decode cX11_canBeRelated 18 = .ok (.iconst 1, 1) := by decide +kernel
theorem dX11_canBeRelated_19 : decode cX11_canBeRelated 19 = .ok (.goto 4, 3) := by decide +kernel
theorem dX11_canBeRelated_22 : decode cX11_canBeRelated 22 = .ok (.iconst 0, 1) := by decide +kernel
theorem dX11_canBeRelated_23 : decode cX11_canBeRelated 23 = .ok (.ireturn, 1) := by decide +kernel
abbrev M_X11_canBeRelated : MRec := (yX11_canBeRelated, cX11_canBeRelated, 1, (some Jvm.ClassFile.FieldType.boolean), [])
theorem m_X11_canBeRelated : en_M M_X11_canBeRelated 1 := ⟨t_1885, t_1, ⟨by decide +kernel, by decide +kernel⟩, by decide +kernel, by decide +kernel, by decide +kernel⟩
theorem dX11_mustBeRelatable_0 : decode cX11_mustBeRelatable 0 = .ok (.aload_n 0, 1) := by decide +kernel
theorem dX11_mustBeRelatable_1 : decode cX11_mustBeRelatable 1 = .ok (.iload_n 2, 1) := by decide +kernel
theorem dX11_mustBeRelatable_2 : decode cX11_mustBeRelatable 2 = .ok (.invokevirtual 140, 3) := by decide +kernel
theorem dX11_mustBeRelatable_5 : decode cX11_mustBeRelatable 5 = .ok (.astore 4, 2) := by decide +kernel
theorem dX11_mustBeRelatable_7 : decode cX11_mustBeRelatable 7 = .ok (.aload_n 0, 1) := by decide +kernel
theorem dX11_mustBeRelatable_8 : decode cX11_mustBeRelatable 8 = .ok (.iload_n 3, 1) := by decide +kernel
theorem dX11_mustBeRelatable_9 : decode cX11_mustBeRelatable 9 = .ok (.invokevirtual 140, 3) := by decide +kernel
theorem dX11_mustBeRelatable_12 : decode cX11_mustBeRelatable 12 = .ok (.astore 5, 2) := by decide +kernel
theorem dX11_mustBeRelatable_14 : decode cX11_mustBeRelatable 14 = .ok (.aload 4, 2) := by decide +kernel
theorem dX11_mustBeRelatable_16 : decode cX11_mustBeRelatable 16 = .ok (.invokestatic 172, 3) := by decide +kernel
theorem dX11_mustBeRelatable_19 : decode cX11_mustBeRelatable 19 = .ok (.aload 5, 2) := by decide +kernel
theorem dX11_mustBeRelatable_21 : decode cX11_mustBeRelatable 21 = .ok (.invokestatic 172, 3) := by decide +kernel
theorem dX11_mustBeRelatable_24 : decode cX11_mustBeRelatable 24 = .ok (.iload_n 1, 1) := by decide +kernel
theorem dX11_mustBeRelatable_25 : decode cX11_mustBeRelatable 25 = .ok (.ifCond .lt 25, 3) := by decide +kernel
theorem dX11_mustBeRelatable_28 : decode cX11_mustBeRelatable 28 = .ok (.iload_n 1, 1) := by decide +kernel
theorem dX11_mustBeRelatable_29 : decode cX11_mustBeRelatable 29 = .ok (.bipush 9, 2) := by decide +kernel
theorem dX11_mustBeRelatable_31 : decode cX11_mustBeRelatable 31 = .ok (.if_icmp .ge 19, 3) := by decide +kernel
theorem dX11_mustBeRelatable_34 : decode cX11_mustBeRelatable 34 = .ok (.aload 4, 2) := by decide +kernel
theorem dX11_mustBeRelatable_36 : decode cX11_mustBeRelatable 36 = .ok (.invokestatic 267, 3) := by decide +kernel
theorem dX11_mustBeRelatable_39 : decode cX11_mustBeRelatable 39 = .ok (.ifCond .eq 11, 3) := by decide +kernel
theorem dX11_mustBeRelatable_42 : decode cX11_mustBeRelatable 42 = .ok (.aload 5, 2) := by decide +kernel
theorem dX11_mustBeRelatable_44 : decode cX11_mustBeRelatable 44 = .ok (.invokestatic 267, 3) := by decide +kernel
theorem dX11_mustBeRelatable_47 : decode cX11_mustBeRelatable 47 = .ok (.ifCond .ne 11, 3) := by decide +kernel
theorem dX11_mustBeRelatable_50 : decode cX11_mustBeRelatable 50 = .ok (.new 116, 3) := by decide +kernel
theorem dX11_mustBeRelatable_53 : decode cX11_mustBeRelatable 53 = .ok (.dup, 1) := by decide +kernel
theorem dX11_mustBeRelatable_54 : decode cX11_mustBeRelatable 54 = .ok (.invokespecial 118, 3) := by decide +kernel
theorem dX11_mustBeRelatable_57 : decode cX11_mustBeRelatable 57 = .ok (.athrow, 1) := by decide +kernel
theorem dX11_mustBeRelatable_58 : decode cX11_mustBeRelatable 58 = .ok (.return_, 1) := by decide +kernel
abbrev M_X11_mustBeRelatable : MRec := (yX11_mustBeRelatable, cX11_mustBeRelatable, 6, none, [])
theorem m_X11_mustBeRelatable : en_M M_X11_mustBeRelatable 3 := ⟨t_1882, t_1, ⟨by decide +kernel, by decide +kernel⟩, by decide +kernel, by decide +kernel, by decide +kernel⟩
theorem dX3_isOfPoints_0 : decode cX3_isOfPoints 0 = .ok (.aload_n 0, 1) := by decide +kernel
theorem dX3_isOfPoints_1 : decode cX3_isOfPoints 1 = .ok (.invokevirtual 49, 3) := by decide +kernel
theorem dX3_isOfPoints_4 : decode cX3_isOfPoints 4 = .ok (.iconst 1, 1) := by decide +kernel
theorem dX3_isOfPoints_5 : decode cX3_isOfPoints 5 = .ok (.if_icmp .eq 11, 3) := by decide +kernel
theorem dX3_isOfPoints_8 : decode cX3_isOfPoints 8 = .ok (.aload_n 0, 1) := by decide +kernel
theorem dX3_isOfPoints_9 : decode cX3_isOfPoints 9 = .ok (.invokevirtual 49, 3) := by decide +kernel
theorem dX3_isOfPoints_12 : decode cX3_isOfPoints 12 = .ok (.iconst 4, 1) := by decide +kernel
theorem dX3_isOfPoints_13 : decode cX3_isOfPoints 13 = .ok (.if_icmp .ne 7, 3) := by decide +kernel
theorem dX3_isOfPoints_16 : decode cX3_isOfPoints 16 = .ok (.iconst 1, 1) := by decide +kernel
theorem dX3_isOfPoints_17 : decode cX3_isOfPoints 17 = .ok (.goto 4, 3) := by decide +kernel
theorem dX3_isOfPoints_20 : decode cX3_isOfPoints 20 = .ok (.iconst 0, 1) := by decide +kernel
theorem dX3_isOfPoints_21 : decode cX3_isOfPoints 21 = .ok (.ireturn, 1) := by decide +kernel
abbrev M_X3_isOfPoints : MRec := (yX3_isOfPoints, cX3_isOfPoints, 1, (some Jvm.ClassFile.FieldType.boolean), [])
theorem m_X3_isOfPoints : en_M M_X3_isOfPoints 1 := ⟨t_1895, t_11, ⟨by decide +kernel, by decide +kernel⟩, by decide +kernel, by decide +kernel, by decide +kernel⟩
theorem dX3_hasTooManyParts_0 : decode cX3_hasTooManyParts 0 = .ok (.aload_n 0, 1) := by decide +kernel
theorem dX3_hasTooManyParts_1 : decode cX3_hasTooManyParts 1 = .ok (.invokestatic 55, 3) := by decide +kernel
theorem dX3_hasTooManyParts_4 : decode cX3_hasTooManyParts 4 = .ok (.ifCond .eq 5, 3) := by decide +kernel
theorem dX3_hasTooManyParts_7 : decode cX3_hasTooManyParts 7 = .ok (.iconst 0, 1) := by decide +kernel
theorem dX3_hasTooManyParts_8 : decode cX3_hasTooManyParts 8 = .ok (.ireturn, 1) := by decide +kernel
theorem dX3_hasTooManyParts_9 : decode cX3_hasTooManyParts 9 = .ok (.iconst 0, 1) := by decide +kernel
theorem dX3_hasTooManyParts_10 : decode cX3_hasTooManyParts 10 = .ok (.istore_n 1, 1) := by decide +kernel
theorem dX3_hasTooManyParts_11 : decode cX3_hasTooManyParts 11 = .ok (.iconst 0, 1) := by decide +kernel
theorem dX3_hasTooManyParts_12 : decode cX3_hasTooManyParts 12 = .ok (.istore_n 2, 1) := by decide +kernel
theorem dX3_hasTooManyParts_13 : decode cX3_hasTooManyParts 13 = .ok (.iload_n 2, 1) := by decide +kernel
theorem dX3_hasTooManyParts_14 : decode cX3_hasTooManyParts 14 = .ok (.iconst 1, 1) := by decide +kernel
theorem dX3_hasTooManyParts_15 : decode cX3_hasTooManyParts 15 = .ok (.iadd, 1) := by decide +kernel
theorem dX3_hasTooManyParts_16 : decode cX3_hasTooManyParts 16 = .ok (.aload_n 0, 1) := by decide +kernel
theorem dX3_hasTooManyParts_17 : decode cX3_hasTooManyParts 17 = .ok (.getfield 59, 3) := by decide +kernel
theorem dX3_hasTooManyParts_20 : decode cX3_hasTooManyParts 20 = .ok (.if_icmp .ge 20, 3) := by decide +kernel
theorem dX3_hasTooManyParts_23 : decode cX3_hasTooManyParts 23 = .ok (.iload_n 1, 1) := by decide +kernel
theorem dX3_hasTooManyParts_24 : decode cX3_hasTooManyParts 24 = .ok (.aload_n 0, 1) := by decide +kernel
theorem dX3_hasTooManyParts_25 : decode cX3_hasTooManyParts 25 = .ok (.iload_n 2, 1) := by decide +kernel
theorem dX3_hasTooManyParts_26 : decode cX3_hasTooManyParts 26 = .ok (.invokevirtual 63, 3) := by decide +kernel
theorem dX3_hasTooManyParts_29 : decode cX3_hasTooManyParts 29 = .ok (.iadd, 1) := by decide +kernel
theorem dX3_hasTooManyParts_30 : decode cX3_hasTooManyParts 30 = .ok (.istore_n 1, 1) := by decide +kernel
theorem dX3_hasTooManyParts_31 : decode cX3_hasTooManyParts 31 = .ok (.aload_n 0, 1) := by decide +kernel
theorem dX3_hasTooManyParts_32 : decode cX3_hasTooManyParts 32 = .ok (.iload_n 2, 1) := by decide +kernel
theorem dX3_hasTooManyParts_33 : decode cX3_hasTooManyParts 33 = .ok (.invokevirtual 67, 3) := by decide +kernel
theorem dX3_hasTooManyParts_36 : decode cX3_hasTooManyParts 36 = .ok (.istore_n 2, 1) := by decide +kernel
theorem dX3_hasTooManyParts_37 : decode cX3_hasTooManyParts 37 = .ok (.goto (-24), 3) := by decide +kernel
theorem dX3_hasTooManyParts_40 : decode cX3_hasTooManyParts 40 = .ok (.iload_n 1, 1) := by decide +kernel
theorem dX3_hasTooManyParts_41 : decode cX3_hasTooManyParts 41 = .ok (.sipush 1024, 3) := by decide +kernel
theorem dX3_hasTooManyParts_44 : decode cX3_hasTooManyParts 44 = .ok (.if_icmp .le 7, 3) := by decide +kernel
theorem dX3_hasTooManyParts_47 : decode cX3_hasTooManyParts 47 = .ok (.iconst 1, 1) := by decide +kernel
theorem dX3_hasTooManyParts_48 : decode cX3_hasTooManyParts 48 = .ok (.goto 4, 3) := by decide +kernel
theorem dX3_hasTooManyParts_51 : decode cX3_hasTooManyParts 51 = .ok (.iconst 0, 1) := by decide +kernel
theorem dX3_hasTooManyParts_52 : decode cX3_hasTooManyParts 52 = .ok (.ireturn, 1) := by decide +kernel
abbrev M_X3_hasTooManyParts : MRec := (yX3_hasTooManyParts, cX3_hasTooManyParts, 3, (some Jvm.ClassFile.FieldType.boolean), [])
theorem m_X3_hasTooManyParts : en_M M_X3_hasTooManyParts 1 := ⟨t_1892, t_11, ⟨by decide +kernel, by decide +kernel⟩, by decide +kernel, by decide +kernel, by decide +kernel⟩
theorem dX6_isAt_0 : decode cX6_isAt 0 = .ok (.aload_n 0, 1) := by decide +kernel
theorem dX6_isAt_1 : decode cX6_isAt 1 = .ok (.getfield 15, 3) := by decide +kernel
theorem dX6_isAt_4 : decode cX6_isAt 4 = .ok (.iload_n 1, 1) := by decide +kernel
theorem dX6_isAt_5 : decode cX6_isAt 5 = .ok (.iaload, 1) := by decide +kernel
theorem dX6_isAt_6 : decode cX6_isAt 6 = .ok (.iload_n 2, 1) := by decide +kernel
theorem dX6_isAt_7 : decode cX6_isAt 7 = .ok (.if_icmp .ne 17, 3) := by decide +kernel
theorem dX6_isAt_10 : decode cX6_isAt 10 = .ok (.aload_n 0, 1) := by decide +kernel
theorem dX6_isAt_11 : decode cX6_isAt 11 = .ok (.getfield 18, 3) := by decide +kernel
theorem dX6_isAt_14 : decode cX6_isAt 14 = .ok (.iload_n 1, 1) := by decide +kernel
theorem dX6_isAt_15 : decode cX6_isAt 15 = .ok (.iaload, 1) := by decide +kernel
theorem dX6_isAt_16 : decode cX6_isAt 16 = .ok (.iload_n 3, 1) := by decide +kernel
theorem dX6_isAt_17 : decode cX6_isAt 17 = .ok (.if_icmp .ne 7, 3) := by decide +kernel
theorem dX6_isAt_20 : decode cX6_isAt 20 = .ok (.iconst 1, 1) := by decide +kernel
theorem dX6_isAt_21 : decode cX6_isAt 21 = .ok (.goto 4, 3) := by decide +kernel
theorem dX6_isAt_24 : decode cX6_isAt 24 = .ok (.iconst 0, 1) := by decide +kernel
theorem dX6_isAt_25 : decode cX6_isAt 25 = .ok (.ireturn, 1) := by decide +kernel
abbrev M_X6_isAt : MRec := (yX6_isAt, cX6_isAt, 4, (some Jvm.ClassFile.FieldType.boolean), [])
theorem m_X6_isAt : en_M M_X6_isAt 3 := ⟨t_2024, t_2, ⟨by decide +kernel, by decide +kernel⟩, by decide +kernel, by decide +kernel, by decide +kernel⟩
theorem dX3_hasPoint_0 : decode cX3_hasPoint 0 = .ok (.iconst 0, 1) := by decide +kernel
theorem dX3_hasPoint_1 : decode cX3_hasPoint 1 = .ok (.istore_n 3, 1) := by decide +kernel
theorem dX3_hasPoint_2 : decode cX3_hasPoint 2 = .ok (.iload_n 3, 1) := by decide +kernel
theorem dX3_hasPoint_3 : decode cX3_hasPoint 3 = .ok (.aload_n 0, 1) := by decide +kernel
theorem dX3_hasPoint_4 : decode cX3_hasPoint 4 = .ok (.getfield 102, 3) := by decide +kernel
theorem dX3_hasPoint_7 : decode cX3_hasPoint 7 = .ok (.if_icmp .ge 21, 3) := by decide +kernel
theorem dX3_hasPoint_10 : decode cX3_hasPoint 10 = .ok (.aload_n 0, 1) := by decide +kernel
theorem dX3_hasPoint_11 : decode cX3_hasPoint 11 = .ok (.iload_n 3, 1) := by decide +kernel
theorem dX3_hasPoint_12 : decode cX3_hasPoint 12 = .ok (.iload_n 1, 1) := by decide +kernel
theorem dX3_hasPoint_13 : decode cX3_hasPoint 13 = .ok (.iload_n 2, 1) := by decide +kernel
theorem dX3_hasPoint_14 : decode cX3_hasPoint 14 = .ok (.invokevirtual 81, 3) := by decide +kernel
theorem dX3_hasPoint_17 : decode cX3_hasPoint 17 = .ok (.ifCond .eq 5, 3) := by decide +kernel
theorem dX3_hasPoint_20 : decode cX3_hasPoint 20 = .ok (.iconst 1, 1) := by decide +kernel
theorem dX3_hasPoint_21 : decode cX3_hasPoint 21 = .ok (.ireturn, 1) := by decide +kernel
theorem dX3_hasPoint_22 : decode cX3_hasPoint 22 = .ok (.iinc 3 1, 3) := by decide +kernel
theorem dX3_hasPoint_25 : decode cX3_hasPoint 25 = .ok (.goto (-23), 3) := by decide +kernel
theorem dX3_hasPoint_28 : decode cX3_hasPoint 28 = .ok (.iconst 0, 1) := by decide +kernel
theorem dX3_hasPoint_29 : decode cX3_hasPoint 29 = .ok (.ireturn, 1) := by decide +kernel
abbrev M_X3_hasPoint : MRec := (yX3_hasPoint, cX3_hasPoint, 4, (some Jvm.ClassFile.FieldType.boolean), [])
theorem m_X3_hasPoint : en_M M_X3_hasPoint 3 := ⟨t_2020, t_11, ⟨by decide +kernel, by decide +kernel⟩, by decide +kernel, by decide +kernel, by decide +kernel⟩
theorem dX3_isArea_0 : decode cX3_isArea 0 = .ok (.aload_n 0, 1) := by decide +kernel
theorem dX3_isArea_1 : decode cX3_isArea 1 = .ok (.invokevirtual 49, 3) := by decide +kernel
theorem dX3_isArea_4 : decode cX3_isArea 4 = .ok (.iconst 3, 1) := by decide +kernel
theorem dX3_isArea_5 : decode cX3_isArea 5 = .ok (.if_icmp .eq 12, 3) := by decide +kernel
theorem dX3_isArea_8 : decode cX3_isArea 8 = .ok (.aload_n 0, 1) := by decide +kernel
theorem dX3_isArea_9 : decode cX3_isArea 9 = .ok (.invokevirtual 49, 3) := by decide +kernel
theorem dX3_isArea_12 : decode cX3_isArea 12 = .ok (.bipush 6, 2) := by decide +kernel
theorem dX3_isArea_14 : decode cX3_isArea 14 = .ok (.if_icmp .ne 7, 3) := by decide +kernel
theorem dX3_isArea_17 : decode cX3_isArea 17 = .ok (.iconst 1, 1) := by decide +kernel
theorem dX3_isArea_18 : decode cX3_isArea 18 = .ok (.goto 4, 3) := by decide +kernel
theorem dX3_isArea_21 : decode cX3_isArea 21 = .ok (.iconst 0, 1) := by decide +kernel
theorem dX3_isArea_22 : decode cX3_isArea 22 = .ok (.ireturn, 1) := by decide +kernel
abbrev M_X3_isArea : MRec := (yX3_isArea, cX3_isArea, 1, (some Jvm.ClassFile.FieldType.boolean), [])
theorem m_X3_isArea : en_M M_X3_isArea 1 := ⟨t_1907, t_11, ⟨by decide +kernel, by decide +kernel⟩, by decide +kernel, by decide +kernel, by decide +kernel⟩
theorem dX3_whereIs_0 : decode cX3_whereIs 0 = .ok (.aload_n 0, 1) := by decide +kernel
theorem dX3_whereIs_1 : decode cX3_whereIs 1 = .ok (.invokestatic 55, 3) := by decide +kernel
theorem dX3_whereIs_4 : decode cX3_whereIs 4 = .ok (.ifCond .eq 18, 3) := by decide +kernel
theorem dX3_whereIs_7 : decode cX3_whereIs 7 = .ok (.aload_n 0, 1) := by decide +kernel
theorem dX3_whereIs_8 : decode cX3_whereIs 8 = .ok (.iload_n 1, 1) := by decide +kernel
theorem dX3_whereIs_9 : decode cX3_whereIs 9 = .ok (.iload_n 2, 1) := by decide +kernel
theorem dX3_whereIs_10 : decode cX3_whereIs 10 = .ok (.invokestatic 70, 3) := by decide +kernel
theorem dX3_whereIs_13 : decode cX3_whereIs 13 = .ok (.ifCond .eq 7, 3) := by decide +kernel
theorem dX3_whereIs_16 : decode cX3_whereIs 16 = .ok (.iconst 0, 1) := by decide +kernel
theorem dX3_whereIs_17 : decode cX3_whereIs 17 = .ok (.goto 4, 3) := by decide +kernel
theorem dX3_whereIs_20 : decode cX3_whereIs 20 = .ok (.iconst 2, 1) := by decide +kernel
theorem dX3_whereIs_21 : decode cX3_whereIs 21 = .ok (.ireturn, 1) := by decide +kernel
theorem dX3_whereIs_22 : decode cX3_whereIs 22 = .ok (.aload_n 0, 1) := by decide +kernel
theorem dX3_whereIs_23 : decode cX3_whereIs 23 = .ok (.invokestatic 74, 3) := by decide +kernel
theorem dX3_whereIs_26 : decode cX3_whereIs 26 = .ok (.istore_n 3, 1) := by decide +kernel
theorem dX3_whereIs_27 : decode cX3_whereIs 27 = .ok (.iconst 0, 1) := by decide +kernel
theorem dX3_whereIs_28 : decode cX3_whereIs 28 = .ok (.istore 4, 2) := by decide +kernel
theorem dX3_whereIs_30 : decode cX3_whereIs 30 = .ok (.iconst 0, 1) := by decide +kernel
theorem dX3_whereIs_31 : decode cX3_whereIs 31 = .ok (.istore 5, 2) := by decide +kernel
theorem dX3_whereIs_33 : decode cX3_whereIs 33 = .ok (.iconst 0, 1) := by decide +kernel
theorem dX3_whereIs_34 : decode cX3_whereIs 34 = .ok (.istore 6, 2) := by decide +kernel
theorem dX3_whereIs_36 : decode cX3_whereIs 36 = .ok (.iconst 0, 1) := by decide +kernel
theorem dX3_whereIs_37 : decode cX3_whereIs 37 = .ok (.istore 7, 2) := by decide +kernel
theorem dX3_whereIs_39 : decode cX3_whereIs 39 = .ok (.iconst 0, 1) := by decide +kernel
theorem dX3_whereIs_40 : decode cX3_whereIs 40 = .ok (.istore 8, 2) := by decide +kernel
theorem dX3_whereIs_42 : decode cX3_whereIs 42 = .ok (.iload 8, 2) := by decide +kernel
theorem dX3_whereIs_44 : decode cX3_whereIs 44 = .ok (.iconst 1, 1) := by decide +kernel
theorem dX3_whereIs_45 : decode cX3_whereIs 45 = .ok (.iadd, 1) := by decide +kernel
theorem dX3_whereIs_46 : decode cX3_whereIs 46 = .ok (.aload_n 0, 1) := by decide +kernel
theorem dX3_whereIs_47 : decode cX3_whereIs 47 = .ok (.getfield 59, 3) := by decide +kernel
theorem dX3_whereIs_50 : decode cX3_whereIs 50 = .ok (.if_icmp .ge 240, 3) := by decide +kernel
theorem dX3_whereIs_53 : decode cX3_whereIs 53 = .ok (.iconst 0, 1) := by decide +kernel
theorem dX3_whereIs_54 : decode cX3_whereIs 54 = .ok (.istore 9, 2) := by decide +kernel
theorem dX3_whereIs_56 : decode cX3_whereIs 56 = .ok (.iload 9, 2) := by decide +kernel
theorem dX3_whereIs_58 : decode cX3_whereIs 58 = .ok (.aload_n 0, 1) := by decide +kernel
theorem dX3_whereIs_59 : decode cX3_whereIs 59 = .ok (.iload 8, 2) := by decide +kernel
theorem dX3_whereIs_61 : decode cX3_whereIs 61 = .ok (.invokevirtual 63, 3) := by decide +kernel
theorem dX3_whereIs_64 : decode cX3_whereIs 64 = .ok (.if_icmp .ge 215, 3) := by decide +kernel
theorem dX3_whereIs_67 : decode cX3_whereIs 67 = .ok (.iload 7, 2) := by decide +kernel
theorem dX3_whereIs_69 : decode cX3_whereIs 69 = .ok (.aload_n 0, 1) := by decide +kernel
theorem dX3_whereIs_70 : decode cX3_whereIs 70 = .ok (.iload 8, 2) := by decide +kernel
theorem dX3_whereIs_72 : decode cX3_whereIs 72 = .ok (.iload 9, 2) := by decide +kernel
theorem dX3_whereIs_74 : decode cX3_whereIs 74 = .ok (.invokevirtual 77, 3) := by decide +kernel
theorem dX3_whereIs_77 : decode cX3_whereIs 77 = .ok (.iadd, 1) := by decide +kernel
theorem dX3_whereIs_78 : decode cX3_whereIs 78 = .ok (.istore 10, 2) := by decide +kernel
theorem dX3_whereIs_80 : decode cX3_whereIs 80 = .ok (.iload 7, 2) := by decide +kernel
theorem dX3_whereIs_82 : decode cX3_whereIs 82 = .ok (.iload 10, 2) := by decide +kernel
theorem dX3_whereIs_84 : decode cX3_whereIs 84 = .ok (.if_icmp .ge 36, 3) := by decide +kernel
theorem dX3_whereIs_87 : decode cX3_whereIs 87 = .ok (.aload_n 0, 1) := by decide +kernel
theorem dX3_whereIs_88 : decode cX3_whereIs 88 = .ok (.iload 7, 2) := by decide +kernel
theorem dX3_whereIs_90 : decode cX3_whereIs 90 = .ok (.iload_n 1, 1) := by decide +kernel
theorem dX3_whereIs_91 : decode cX3_whereIs 91 = .ok (.iload_n 2, 1) := by decide +kernel
theorem dX3_whereIs_92 : decode cX3_whereIs 92 = .ok (.invokevirtual 81, 3) := by decide +kernel
theorem dX3_whereIs_95 : decode cX3_whereIs 95 = .ok (.aload_n 0, 1) := by decide +kernel
theorem dX3_whereIs_96 : decode cX3_whereIs 96 = .ok (.iload 10, 2) := by decide +kernel
theorem dX3_whereIs_98 : decode cX3_whereIs 98 = .ok (.iconst 1, 1) := by decide +kernel
theorem dX3_whereIs_99 : decode cX3_whereIs 99 = .ok (.isub, 1) := by decide +kernel
theorem dX3_whereIs_100 : decode cX3_whereIs 100 = .ok (.iload_n 1, 1) := by decide +kernel
theorem dX3_whereIs_101 : decode cX3_whereIs 101 = .ok (.iload_n 2, 1) := by decide +kernel
theorem dX3_whereIs_102 : decode cX3_whereIs 102 = .ok (.invokevirtual 81, 3) := by decide +kernel
theorem dX3_whereIs_105 : decode cX3_whereIs 105 = .ok (.if_icmp .eq 15, 3) := by decide +kernel
theorem dX3_whereIs_108 : decode cX3_whereIs 108 = .ok (.iload 4, 2) := by decide +kernel
theorem dX3_whereIs_110 : decode cX3_whereIs 110 = .ok (.ifCond .ne 7, 3) := by decide +kernel
theorem dX3_whereIs_113 : decode cX3_whereIs 113 = .ok (.iconst 1, 1) := by decide +kernel
theorem dX3_whereIs_114 : decode cX3_whereIs 114 = .ok (.goto 4, 3) := by decide +kernel
theorem dX3_whereIs_117 : decode cX3_whereIs 117 = .ok (.iconst 0, 1) := by decide +kernel
theorem dX3_whereIs_118 : decode cX3_whereIs 118 = .ok (.istore 4, 2) := by decide +kernel
theorem dX3_whereIs_120 : decode cX3_whereIs 120 = .ok (.iload 7, 2) := by decide +kernel
theorem dX3_whereIs_122 : decode cX3_whereIs 122 = .ok (.istore 11, 2) := by decide +kernel
theorem dX3_whereIs_124 : decode cX3_whereIs 124 = .ok (.iload 11, 2) := by decide +kernel
theorem dX3_whereIs_126 : decode cX3_whereIs 126 = .ok (.iload 10, 2) := by decide +kernel
theorem dX3_whereIs_128 : decode cX3_whereIs 128 = .ok (.if_icmp .ge 141, 3) := by decide +kernel
theorem dX3_whereIs_131 : decode cX3_whereIs 131 = .ok (.iload 11, 2) := by decide +kernel
theorem dX3_whereIs_133 : decode cX3_whereIs 133 = .ok (.iconst 1, 1) := by decide +kernel
theorem dX3_whereIs_134 : decode cX3_whereIs 134 = .ok (.iadd, 1) := by decide +kernel
theorem dX3_whereIs_135 : decode cX3_whereIs 135 = .ok (.iload 10, 2) := by decide +kernel
theorem dX3_whereIs_137 : decode cX3_whereIs 137 = .ok (.if_icmp .ge 10, 3) := by decide +kernel
theorem dX3_whereIs_140 : decode cX3_whereIs 140 = .ok (.iload 11, 2) := by decide +kernel
theorem dX3_whereIs_142 : decode cX3_whereIs 142 = .ok (.iconst 1, 1) := by decide +kernel
theorem dX3_whereIs_143 : decode cX3_whereIs 143 = .ok (.iadd, 1) := by decide +kernel
theorem dX3_whereIs_144 : decode cX3_whereIs 144 = .ok (.goto 5, 3) := by decide +kernel
theorem dX3_whereIs_147 : decode cX3_whereIs 147 = .ok (.iload 7, 2) := by decide +kernel
theorem dX3_whereIs_149 : decode cX3_whereIs 149 = .ok (.istore 12, 2) := by decide +kernel
theorem dX3_whereIs_151 : decode cX3_whereIs 151 = .ok (.aload_n 0, 1) := by decide +kernel
theorem dX3_whereIs_152 : decode cX3_whereIs 152 = .ok (.iload 11, 2) := by decide +kernel
theorem dX3_whereIs_154 : decode cX3_whereIs 154 = .ok (.iload 12, 2) := by decide +kernel
theorem dX3_whereIs_156 : decode cX3_whereIs 156 = .ok (.invokevirtual 85, 3) := by decide +kernel
theorem dX3_whereIs_159 : decode cX3_whereIs 159 = .ok (.ifCond .ne 104, 3) := by decide +kernel
theorem dX3_whereIs_162 : decode cX3_whereIs 162 = .ok (.iload 12, 2) := by decide +kernel
theorem dX3_whereIs_164 : decode cX3_whereIs 164 = .ok (.iload 7, 2) := by decide +kernel
theorem dX3_whereIs_166 : decode cX3_whereIs 166 = .ok (.if_icmp .ne 10, 3) := by decide +kernel
theorem dX3_whereIs_169 : decode cX3_whereIs 169 = .ok (.iload_n 3, 1) := by decide +kernel
theorem dX3_whereIs_170 : decode cX3_whereIs 170 = .ok (.ifCond .ne 6, 3) := by decide +kernel
theorem dX3_whereIs_173 : decode cX3_whereIs 173 = .ok (.goto 90, 3) := by decide +kernel
theorem dX3_whereIs_176 : decode cX3_whereIs 176 = .ok (.aload_n 0, 1) := by decide +kernel
theorem dX3_whereIs_177 : decode cX3_whereIs 177 = .ok (.getfield 89, 3) := by decide +kernel
theorem dX3_whereIs_180 : decode cX3_whereIs 180 = .ok (.iload 11, 2) := by decide +kernel
theorem dX3_whereIs_182 : decode cX3_whereIs 182 = .ok (.iaload, 1) := by decide +kernel
theorem dX3_whereIs_183 : decode cX3_whereIs 183 = .ok (.aload_n 0, 1) := by decide +kernel
theorem dX3_whereIs_184 : decode cX3_whereIs 184 = .ok (.getfield 92, 3) := by decide +kernel
theorem dX3_whereIs_187 : decode cX3_whereIs 187 = .ok (.iload 11, 2) := by decide +kernel
theorem dX3_whereIs_189 : decode cX3_whereIs 189 = .ok (.iaload, 1) := by decide +kernel
theorem dX3_whereIs_190 : decode cX3_whereIs 190 = .ok (.aload_n 0, 1) := by decide +kernel
theorem dX3_whereIs_191 : decode cX3_whereIs 191 = .ok (.getfield 89, 3) := by decide +kernel
theorem dX3_whereIs_194 : decode cX3_whereIs 194 = .ok (.iload 12, 2) := by decide +kernel
theorem dX3_whereIs_196 : decode cX3_whereIs 196 = .ok (.iaload, 1) := by decide +kernel
theorem dX3_whereIs_197 : decode cX3_whereIs 197 = .ok (.aload_n 0, 1) := by decide +kernel
theorem dX3_whereIs_198 : decode cX3_whereIs 198 = .ok (.getfield 92, 3) := by decide +kernel
theorem dX3_whereIs_201 : decode cX3_whereIs 201 = .ok (.iload 12, 2) := by decide +kernel
theorem dX3_whereIs_203 : decode cX3_whereIs 203 = .ok (.iaload, 1) := by decide +kernel
theorem dX3_whereIs_204 : decode cX3_whereIs 204 = .ok (.iload_n 1, 1) := by decide +kernel
theorem dX3_whereIs_205 : decode cX3_whereIs 205 = .ok (.iload_n 2, 1) := by decide +kernel
theorem dX3_whereIs_206 : decode cX3_whereIs 206 = .ok (.invokestatic 95, 3) := by decide +kernel
theorem dX3_whereIs_209 : decode cX3_whereIs 209 = .ok (.ifCond .eq 6, 3) := by decide +kernel
theorem dX3_whereIs_212 : decode cX3_whereIs 212 = .ok (.iconst 1, 1) := by decide +kernel
theorem dX3_whereIs_213 : decode cX3_whereIs 213 = .ok (.istore 5, 2) := by decide +kernel
theorem dX3_whereIs_215 : decode cX3_whereIs 215 = .ok (.aload_n 0, 1) := by decide +kernel
theorem dX3_whereIs_216 : decode cX3_whereIs 216 = .ok (.getfield 89, 3) := by decide +kernel
theorem dX3_whereIs_219 : decode cX3_whereIs 219 = .ok (.iload 11, 2) := by decide +kernel
theorem dX3_whereIs_221 : decode cX3_whereIs 221 = .ok (.iaload, 1) := by decide +kernel
theorem dX3_whereIs_222 : decode cX3_whereIs 222 = .ok (.aload_n 0, 1) := by decide +kernel
theorem dX3_whereIs_223 : decode cX3_whereIs 223 = .ok (.getfield 92, 3) := by decide +kernel
theorem dX3_whereIs_226 : decode cX3_whereIs 226 = .ok (.iload 11, 2) := by decide +kernel
theorem dX3_whereIs_228 : decode cX3_whereIs 228 = .ok (.iaload, 1) := by decide +kernel
theorem dX3_whereIs_229 : decode cX3_whereIs 229 = .ok (.aload_n 0, 1) := by decide +kernel
theorem dX3_whereIs_230 : decode cX3_whereIs 230 = .ok (.getfield 89, 3) := by decide +kernel
theorem dX3_whereIs_233 : decode cX3_whereIs 233 = .ok (.iload 12, 2) := by decide +kernel
theorem dX3_whereIs_235 : decode cX3_whereIs 235 = .ok (.iaload, 1) := by decide +kernel
theorem dX3_whereIs_236 : decode cX3_whereIs 236 = .ok (.aload_n 0, 1) := by decide +kernel
theorem dX3_whereIs_237 : decode cX3_whereIs 237 = .ok (.getfield 92, 3) := by decide +kernel
theorem dX3_whereIs_240 : decode cX3_whereIs 240 = .ok (.iload 12, 2) := by decide +kernel
theorem dX3_whereIs_242 : decode cX3_whereIs 242 = .ok (.iaload, 1) := by decide +kernel
theorem dX3_whereIs_243 : decode cX3_whereIs 243 = .ok (.iload_n 1, 1) := by decide +kernel
theorem dX3_whereIs_244 : decode cX3_whereIs 244 = .ok (.iload_n 2, 1) := by decide +kernel
theorem dX3_whereIs_245 : decode cX3_whereIs 245 = .ok (.invokestatic 99, 3) := by decide +kernel
theorem dX3_whereIs_248 : decode cX3_whereIs 248 = .ok (.ifCond .eq 15, 3) := by decide +kernel
theorem dX3_whereIs_251 : decode cX3_whereIs 251 = .ok (.iload 6, 2) := by decide +kernel
theorem dX3_whereIs_253 : decode cX3_whereIs 253 = .ok (.ifCond .ne 7, 3) := by decide +kernel
theorem dX3_whereIs_256 : decode cX3_whereIs 256 = .ok (.iconst 1, 1) := by decide +kernel
theorem dX3_whereIs_257 : decode cX3_whereIs 257 = .ok (.goto 4, 3) := by decide +kernel
theorem dX3_whereIs_260 : decode cX3_whereIs 260 = .ok (.iconst 0, 1) := by decide +kernel
theorem dX3_whereIs_261 : decode cX3_whereIs 261 = .ok (.istore 6, 2) := by decide +kernel
theorem dX3_whereIs_263 : decode cX3_whereIs 263 = .ok (.iinc 11 1, 3) := by decide +kernel
theorem dX3_whereIs_266 : decode cX3_whereIs 266 = .ok (.goto (-142), 3) := by decide +kernel
theorem dX3_whereIs_269 : decode cX3_whereIs 269 = .ok (.iload 10, 2) := by decide +kernel
theorem dX3_whereIs_271 : decode cX3_whereIs 271 = .ok (.istore 7, 2) := by decide +kernel
theorem dX3_whereIs_273 : decode cX3_whereIs 273 = .ok (.iinc 9 1, 3) := by decide +kernel
theorem dX3_whereIs_276 : decode cX3_whereIs 276 = .ok (.goto (-220), 3) := by decide +kernel
theorem dX3_whereIs_279 : decode cX3_whereIs 279 = .ok (.aload_n 0, 1) := by decide +kernel
theorem dX3_whereIs_280 : decode cX3_whereIs 280 = .ok (.iload 8, 2) := by decide +kernel
theorem dX3_whereIs_282 : decode cX3_whereIs 282 = .ok (.invokevirtual 67, 3) := by decide +kernel
theorem dX3_whereIs_285 : decode cX3_whereIs 285 = .ok (.istore 8, 2) := by decide +kernel
theorem dX3_whereIs_287 : decode cX3_whereIs 287 = .ok (.goto (-245), 3) := by decide +kernel
theorem dX3_whereIs_290 : decode cX3_whereIs 290 = .ok (.iload_n 3, 1) := by decide +kernel
theorem dX3_whereIs_291 : decode cX3_whereIs 291 = .ok (.ifCond .eq 23, 3) := by decide +kernel
theorem dX3_whereIs_294 : decode cX3_whereIs 294 = .ok (.iload 5, 2) := by decide +kernel
theorem dX3_whereIs_296 : decode cX3_whereIs 296 = .ok (.ifCond .eq 7, 3) := by decide +kernel
theorem dX3_whereIs_299 : decode cX3_whereIs 299 = .ok (.iconst 1, 1) := by decide +kernel
theorem dX3_whereIs_300 : decode cX3_whereIs 300 = .ok (.goto 13, 3) := by decide +kernel
theorem dX3_whereIs_303 : decode cX3_whereIs 303 = .ok (.iload 6, 2) := by decide +kernel
theorem dX3_whereIs_305 : decode cX3_whereIs 305 = .ok (.ifCond .eq 7, 3) := by decide +kernel
theorem dX3_whereIs_308 : decode cX3_whereIs 308 = .ok (.iconst 0, 1) := by decide +kernel
theorem dX3_whereIs_309 : decode cX3_whereIs 309 = .ok (.goto 4, 3) := by decide +kernel
theorem dX3_whereIs_312 : decode cX3_whereIs 312 = .ok (.iconst 2, 1) := by decide +kernel
theorem dX3_whereIs_313 : decode cX3_whereIs 313 = .ok (.ireturn, 1) := by decide +kernel
theorem dX3_whereIs_314 : decode cX3_whereIs 314 = .ok (.iload 4, 2) := by decide +kernel
theorem dX3_whereIs_316 : decode cX3_whereIs 316 = .ok (.ifCond .eq 7, 3) := by decide +kernel
theorem dX3_whereIs_319 : decode cX3_whereIs 319 = .ok (.iconst 1, 1) := by decide +kernel
theorem dX3_whereIs_320 : decode cX3_whereIs 320 = .ok (.goto 13, 3) := by decide +kernel
theorem dX3_whereIs_323 : decode cX3_whereIs 323 = .ok (.iload 5, 2) := by decide +kernel
theorem dX3_whereIs_325 : decode cX3_whereIs 325 = .ok (.ifCond .eq 7, 3) := by decide +kernel
theorem dX3_whereIs_328 : decode cX3_whereIs 328 = .ok (.iconst 0, 1) := by decide +kernel
theorem dX3_whereIs_329 : decode cX3_whereIs 329 = .ok (.goto 4, 3) := by decide +kernel
theorem dX3_whereIs_332 : decode cX3_whereIs 332 = .ok (.iconst 2, 1) := by decide +kernel
theorem dX3_whereIs_333 : decode cX3_whereIs 333 = .ok (.ireturn, 1) := by decide +kernel
abbrev M_X3_whereIs : MRec := (yX3_whereIs, cX3_whereIs, 13, (some Jvm.ClassFile.FieldType.int), [])
theorem m_X3_whereIs : en_M M_X3_whereIs 3 := ⟨t_2017, t_11, ⟨by decide +kernel, by decide +kernel⟩, by decide +kernel, by decide +kernel, by decide +kernel⟩
theorem dX11_locate_0 : decode cX11_locate 0 = .ok (.aload_n 0, 1) := by decide +kernel
theorem dX11_locate_1 : decode cX11_locate 1 = .ok (.iload_n 1, 1) := by decide +kernel
theorem dX11_locate_2 : decode cX11_locate 2 = .ok (.invokevirtual 140, 3) := by decide +kernel
theorem dX11_locate_5 : decode cX11_locate 5 = .ok (.astore 4, 2) := by decide +kernel
theorem dX11_locate_7 : decode cX11_locate 7 = .ok (.aload 4, 2) := by decide +kernel
theorem dX11_locate_9 : decode cX11_locate 9 = .ok (.invokestatic 172, 3) := by decide +kernel
theorem dX11_locate_12 : decode cX11_locate 12 = .ok (.iload_n 2, 1) := by decide +kernel
theorem dX11_locate_13 : decode cX11_locate 13 = .ok (.ldc 235, 2) := by decide +kernel
theorem dX11_locate_15 : decode cX11_locate 15 = .ok (.invokestatic 270, 3) := by decide +kernel
theorem dX11_locate_18 : decode cX11_locate 18 = .ok (.ifCond .ne 20, 3) := by decide +kernel
theorem dX11_locate_21 : decode cX11_locate 21 = .ok (.iload_n 3, 1) := by decide +kernel
theorem dX11_locate_22 : decode cX11_locate 22 = .ok (.ldc 235, 2) := by decide +kernel
theorem dX11_locate_24 : decode cX11_locate 24 = .ok (.invokestatic 270, 3) := by decide +kernel
theorem dX11_locate_27 : decode cX11_locate 27 = .ok (.ifCond .ne 11, 3) := by decide +kernel
theorem dX11_locate_30 : decode cX11_locate 30 = .ok (.aload 4, 2) := by decide +kernel
theorem dX11_locate_32 : decode cX11_locate 32 = .ok (.invokestatic 267, 3) := by decide +kernel
theorem dX11_locate_35 : decode cX11_locate 35 = .ok (.ifCond .ne 11, 3) := by decide +kernel
theorem dX11_locate_38 : decode cX11_locate 38 = .ok (.new 116, 3) := by decide +kernel
theorem dX11_locate_41 : decode cX11_locate 41 = .ok (.dup, 1) := by decide +kernel
theorem dX11_locate_42 : decode cX11_locate 42 = .ok (.invokespecial 118, 3) := by decide +kernel
theorem dX11_locate_45 : decode cX11_locate 45 = .ok (.athrow, 1) := by decide +kernel
theorem dX11_locate_46 : decode cX11_locate 46 = .ok (.aload 4, 2) := by decide +kernel
theorem dX11_locate_48 : decode cX11_locate 48 = .ok (.invokestatic 273, 3) := by decide +kernel
theorem dX11_locate_51 : decode cX11_locate 51 = .ok (.ifCond .eq 11, 3) := by decide +kernel
theorem dX11_locate_54 : decode cX11_locate 54 = .ok (.new 232, 3) := by decide +kernel
theorem dX11_locate_57 : decode cX11_locate 57 = .ok (.dup, 1) := by decide +kernel
theorem dX11_locate_58 : decode cX11_locate 58 = .ok (.invokespecial 234, 3) := by decide +kernel
theorem dX11_locate_61 : decode cX11_locate 61 = .ok (.athrow, 1) := by decide +kernel
theorem dX11_locate_62 : decode cX11_locate 62 = .ok (.aload 4, 2) := by decide +kernel
theorem dX11_locate_64 : decode cX11_locate 64 = .ok (.iload_n 2, 1) := by decide +kernel
theorem dX11_locate_65 : decode cX11_locate 65 = .ok (.iload_n 3, 1) := by decide +kernel
theorem dX11_locate_66 : decode cX11_locate 66 = .ok (.invokestatic 276, 3) := by decide +kernel
theorem dX11_locate_69 : decode cX11_locate 69 = .ok (.ireturn, 1) := by decide +kernel
abbrev M_X11_locate : MRec := (yX11_locate, cX11_locate, 5, (some Jvm.ClassFile.FieldType.int), [])
theorem m_X11_locate : en_M M_X11_locate 3 := ⟨t_2072, t_1, ⟨by decide +kernel, by decide +kernel⟩, by decide +kernel, by decide +kernel, by decide +kernel⟩
theorem dX2_placeAt_0 : decode cX2_placeAt 0 = .ok (.iconst 0, 1) := by decide +kernel
theorem dX2_placeAt_1 : decode cX2_placeAt 1 = .ok (.istore_n 3, 1) := by decide +kernel
theorem dX2_placeAt_2 : decode cX2_placeAt 2 = .ok (.aload_n 0, 1) := by decide +kernel
theorem dX2_placeAt_3 : decode cX2_placeAt 3 = .ok (.getfield 77, 3) := by decide +kernel
theorem dX2_placeAt_6 : decode cX2_placeAt 6 = .ok (.iconst 1, 1) := by decide +kernel
theorem dX2_placeAt_7 : decode cX2_placeAt 7 = .ok (.isub, 1) := by decide +kernel
theorem dX2_placeAt_8 : decode cX2_placeAt 8 = .ok (.istore 4, 2) := by decide +kernel
theorem dX2_placeAt_10 : decode cX2_placeAt 10 = .ok (.iload_n 3, 1) := by decide +kernel
theorem dX2_placeAt_11 : decode cX2_placeAt 11 = .ok (.iload 4, 2) := by decide +kernel
theorem dX2_placeAt_13 : decode cX2_placeAt 13 = .ok (.if_icmp .ge 40, 3) := by decide +kernel
theorem dX2_placeAt_16 : decode cX2_placeAt 16 = .ok (.iload_n 3, 1) := by decide +kernel
theorem dX2_placeAt_17 : decode cX2_placeAt 17 = .ok (.iload 4, 2) := by decide +kernel
theorem dX2_placeAt_19 : decode cX2_placeAt 19 = .ok (.iload_n 3, 1) := by decide +kernel
theorem dX2_placeAt_20 : decode cX2_placeAt 20 = .ok (.isub, 1) := by decide +kernel
theorem dX2_placeAt_21 : decode cX2_placeAt 21 = .ok (.iconst 2, 1) := by decide +kernel
theorem dX2_placeAt_22 : decode cX2_placeAt 22 = .ok (.idiv, 1) := by decide +kernel
theorem dX2_placeAt_23 : decode cX2_placeAt 23 = .ok (.iadd, 1) := by decide +kernel
theorem dX2_placeAt_24 : decode cX2_placeAt 24 = .ok (.istore 5, 2) := by decide +kernel
theorem dX2_placeAt_26 : decode cX2_placeAt 26 = .ok (.aload_n 0, 1) := by decide +kernel
theorem dX2_placeAt_27 : decode cX2_placeAt 27 = .ok (.getfield 13, 3) := by decide +kernel
theorem dX2_placeAt_30 : decode cX2_placeAt 30 = .ok (.iload 5, 2) := by decide +kernel
theorem dX2_placeAt_32 : decode cX2_placeAt 32 = .ok (.laload, 1) := by decide +kernel
theorem dX2_placeAt_33 : decode cX2_placeAt 33 = .ok (.lload_n 1, 1) := by decide +kernel
theorem dX2_placeAt_34 : decode cX2_placeAt 34 = .ok (.lcmp, 1) := by decide +kernel
theorem dX2_placeAt_35 : decode cX2_placeAt 35 = .ok (.ifCond .ge 11, 3) := by decide +kernel
theorem dX2_placeAt_38 : decode cX2_placeAt 38 = .ok (.iload 5, 2) := by decide +kernel
theorem dX2_placeAt_40 : decode cX2_placeAt 40 = .ok (.iconst 1, 1) := by decide +kernel
theorem dX2_placeAt_41 : decode cX2_placeAt 41 = .ok (.iadd, 1) := by decide +kernel
theorem dX2_placeAt_42 : decode cX2_placeAt 42 = .ok (.istore_n 3, 1) := by decide +kernel
theorem dX2_placeAt_43 : decode cX2_placeAt 43 = .ok (.goto 7, 3) := by decide +kernel
theorem dX2_placeAt_46 : decode cX2_placeAt 46 = .ok (.iload 5, 2) := by decide +kernel
theorem dX2_placeAt_48 : decode cX2_placeAt 48 = .ok (.istore 4, 2) := by decide +kernel
theorem dX2_placeAt_50 : decode cX2_placeAt 50 = .ok (.goto (-40), 3) := by decide +kernel
theorem dX2_placeAt_53 : decode cX2_placeAt 53 = .ok (.iload_n 3, 1) := by decide +kernel
theorem dX2_placeAt_54 : decode cX2_placeAt 54 = .ok (.ireturn, 1) := by decide +kernel
abbrev M_X2_placeAt : MRec := (yX2_placeAt, cX2_placeAt, 6, (some Jvm.ClassFile.FieldType.int), [])
theorem m_X2_placeAt : en_M M_X2_placeAt 1 := ⟨t_2100, t_12, ⟨by decide +kernel, by decide +kernel⟩, by decide +kernel, by decide +kernel, by decide +kernel⟩
theorem dX2_numberPlaces_0 : decode cX2_numberPlaces 0 = .ok (.aload_n 0, 1) := by decide +kernel
theorem dX2_numberPlaces_1 : decode cX2_numberPlaces 1 = .ok (.getfield 24, 3) := by decide +kernel
theorem dX2_numberPlaces_4 : decode cX2_numberPlaces 4 = .ok (.iconst 0, 1) := by decide +kernel
theorem dX2_numberPlaces_5 : decode cX2_numberPlaces 5 = .ok (.aload_n 0, 1) := by decide +kernel
theorem dX2_numberPlaces_6 : decode cX2_numberPlaces 6 = .ok (.getfield 77, 3) := by decide +kernel
theorem dX2_numberPlaces_9 : decode cX2_numberPlaces 9 = .ok (.iconst (-1), 1) := by decide +kernel
theorem dX2_numberPlaces_10 : decode cX2_numberPlaces 10 = .ok (.invokestatic 91, 3) := by decide +kernel
theorem dX2_numberPlaces_13 : decode cX2_numberPlaces 13 = .ok (.iconst 0, 1) := by decide +kernel
theorem dX2_numberPlaces_14 : decode cX2_numberPlaces 14 = .ok (.istore_n 2, 1) := by decide +kernel
theorem dX2_numberPlaces_15 : decode cX2_numberPlaces 15 = .ok (.iconst 0, 1) := by decide +kernel
theorem dX2_numberPlaces_16 : decode cX2_numberPlaces 16 = .ok (.istore_n 3, 1) := by decide +kernel
theorem dX2_numberPlaces_17 : decode cX2_numberPlaces 17 = .ok (.iload_n 3, 1) := by decide +kernel
theorem dX2_numberPlaces_18 : decode cX2_numberPlaces 18 = .ok (.aload_n 1, 1) := by decide +kernel
theorem dX2_numberPlaces_19 : decode cX2_numberPlaces 19 = .ok (.getfield 55, 3) := by decide +kernel
theorem dX2_numberPlaces_22 : decode cX2_numberPlaces 22 = .ok (.if_icmp .ge 60, 3) := by decide +kernel
theorem dX2_numberPlaces_25 : decode cX2_numberPlaces 25 = .ok (.aload_n 0, 1) := by decide +kernel
theorem dX2_numberPlaces_26 : decode cX2_numberPlaces 26 = .ok (.aload_n 1, 1) := by decide +kernel
theorem dX2_numberPlaces_27 : decode cX2_numberPlaces 27 = .ok (.getfield 59, 3) := by decide +kernel
theorem dX2_numberPlaces_30 : decode cX2_numberPlaces 30 = .ok (.iload_n 3, 1) := by decide +kernel
theorem dX2_numberPlaces_31 : decode cX2_numberPlaces 31 = .ok (.iaload, 1) := by decide +kernel
theorem dX2_numberPlaces_32 : decode cX2_numberPlaces 32 = .ok (.aload_n 1, 1) := by decide +kernel
theorem dX2_numberPlaces_33 : decode cX2_numberPlaces 33 = .ok (.getfield 62, 3) := by decide +kernel
theorem dX2_numberPlaces_36 : decode cX2_numberPlaces 36 = .ok (.iload_n 3, 1) := by decide +kernel
theorem dX2_numberPlaces_37 : decode cX2_numberPlaces 37 = .ok (.iaload, 1) := by decide +kernel
theorem dX2_numberPlaces_38 : decode cX2_numberPlaces 38 = .ok (.invokestatic 65, 3) := by decide +kernel
theorem dX2_numberPlaces_41 : decode cX2_numberPlaces 41 = .ok (.invokevirtual 97, 3) := by decide +kernel
theorem dX2_numberPlaces_44 : decode cX2_numberPlaces 44 = .ok (.istore 4, 2) := by decide +kernel
theorem dX2_numberPlaces_46 : decode cX2_numberPlaces 46 = .ok (.aload_n 0, 1) := by decide +kernel
theorem dX2_numberPlaces_47 : decode cX2_numberPlaces 47 = .ok (.getfield 24, 3) := by decide +kernel
theorem dX2_numberPlaces_50 : decode cX2_numberPlaces 50 = .ok (.iload 4, 2) := by decide +kernel
theorem dX2_numberPlaces_52 : decode cX2_numberPlaces 52 = .ok (.iaload, 1) := by decide +kernel
theorem dX2_numberPlaces_53 : decode cX2_numberPlaces 53 = .ok (.iconst (-1), 1) := by decide +kernel
theorem dX2_numberPlaces_54 : decode cX2_numberPlaces 54 = .ok (.if_icmp .ne 22, 3) := by decide +kernel
theorem dX2_numberPlaces_57 : decode cX2_numberPlaces 57 = .ok (.aload_n 0, 1) := by decide +kernel
theorem dX2_numberPlaces_58 : decode cX2_numberPlaces 58 = .ok (.getfield 24, 3) := by decide +kernel
theorem dX2_numberPlaces_61 : decode cX2_numberPlaces 61 = .ok (.iload 4, 2) := by decide +kernel
theorem dX2_numberPlaces_63 : decode cX2_numberPlaces 63 = .ok (.iload_n 2, 1) := by decide +kernel
theorem dX2_numberPlaces_64 : decode cX2_numberPlaces 64 = .ok (.iastore, 1) := by decide +kernel
theorem dX2_numberPlaces_65 : decode cX2_numberPlaces 65 = .ok (.aload_n 0, 1) := by decide +kernel
theorem dX2_numberPlaces_66 : decode cX2_numberPlaces 66 = .ok (.getfield 27, 3) := by decide +kernel
theorem dX2_numberPlaces_69 : decode cX2_numberPlaces 69 = .ok (.iload_n 2, 1) := by decide +kernel
theorem dX2_numberPlaces_70 : decode cX2_numberPlaces 70 = .ok (.iload 4, 2) := by decide +kernel
theorem dX2_numberPlaces_72 : decode cX2_numberPlaces 72 = .ok (.iastore, 1) := by decide +kernel
theorem dX2_numberPlaces_73 : decode cX2_numberPlaces 73 = .ok (.iinc 2 1, 3) := by decide +kernel
theorem dX2_numberPlaces_76 : decode cX2_numberPlaces 76 = .ok (.iinc 3 1, 3) := by decide +kernel
theorem dX2_numberPlaces_79 : decode cX2_numberPlaces 79 = .ok (.goto (-62), 3) := by decide +kernel
theorem dX2_numberPlaces_82 : decode cX2_numberPlaces 82 = .ok (.return_, 1) := by decide +kernel
abbrev M_X2_numberPlaces : MRec := (yX2_numberPlaces, cX2_numberPlaces, 5, none, [])
theorem m_X2_numberPlaces : en_M M_X2_numberPlaces 1 := ⟨t_2095, t_12, ⟨by decide +kernel, by decide +kernel⟩, by decide +kernel, by decide +kernel, by decide +kernel⟩
theorem dX2_gather_0 : decode cX2_gather 0 = .ok (.iconst 0, 1) := by decide +kernel
theorem dX2_gather_1 : decode cX2_gather 1 = .ok (.istore_n 2, 1) := by decide +kernel
theorem dX2_gather_2 : decode cX2_gather 2 = .ok (.iload_n 2, 1) := by decide +kernel
theorem dX2_gather_3 : decode cX2_gather 3 = .ok (.aload_n 1, 1) := by decide +kernel
theorem dX2_gather_4 : decode cX2_gather 4 = .ok (.getfield 55, 3) := by decide +kernel
theorem dX2_gather_7 : decode cX2_gather 7 = .ok (.if_icmp .ge 30, 3) := by decide +kernel
theorem dX2_gather_10 : decode cX2_gather 10 = .ok (.aload_n 0, 1) := by decide +kernel
theorem dX2_gather_11 : decode cX2_gather 11 = .ok (.getfield 13, 3) := by decide +kernel
theorem dX2_gather_14 : decode cX2_gather 14 = .ok (.iload_n 2, 1) := by decide +kernel
theorem dX2_gather_15 : decode cX2_gather 15 = .ok (.aload_n 1, 1) := by decide +kernel
theorem dX2_gather_16 : decode cX2_gather 16 = .ok (.getfield 59, 3) := by decide +kernel
theorem dX2_gather_19 : decode cX2_gather 19 = .ok (.iload_n 2, 1) := by decide +kernel
theorem dX2_gather_20 : decode cX2_gather 20 = .ok (.iaload, 1) := by decide +kernel
theorem dX2_gather_21 : decode cX2_gather 21 = .ok (.aload_n 1, 1) := by decide +kernel
theorem dX2_gather_22 : decode cX2_gather 22 = .ok (.getfield 62, 3) := by decide +kernel
theorem dX2_gather_25 : decode cX2_gather 25 = .ok (.iload_n 2, 1) := by decide +kernel
theorem dX2_gather_26 : decode cX2_gather 26 = .ok (.iaload, 1) := by decide +kernel
theorem dX2_gather_27 : decode cX2_gather 27 = .ok (.invokestatic 65, 3) := by decide +kernel
theorem dX2_gather_30 : decode cX2_gather 30 = .ok (.lastore, 1) := by decide +kernel
theorem dX2_gather_31 : decode cX2_gather 31 = .ok (.iinc 2 1, 3) := by decide +kernel
theorem dX2_gather_34 : decode cX2_gather 34 = .ok (.goto (-32), 3) := by decide +kernel
theorem dX2_gather_37 : decode cX2_gather 37 = .ok (.aload_n 0, 1) := by decide +kernel
theorem dX2_gather_38 : decode cX2_gather 38 = .ok (.getfield 13, 3) := by decide +kernel
theorem dX2_gather_41 : decode cX2_gather 41 = .ok (.aload_n 1, 1) := by decide +kernel
theorem dX2_gather_42 : decode cX2_gather 42 = .ok (.getfield 55, 3) := by decide +kernel
theorem dX2_gather_45 : decode cX2_gather 45 = .ok (.invokestatic 69, 3) := by decide +kernel
theorem dX2_gather_48 : decode cX2_gather 48 = .ok (.aload_n 0, 1) := by decide +kernel
theorem dX2_gather_49 : decode cX2_gather 49 = .ok (.getfield 13, 3) := by decide +kernel
theorem dX2_gather_52 : decode cX2_gather 52 = .ok (.aload_n 1, 1) := by decide +kernel
theorem dX2_gather_53 : decode cX2_gather 53 = .ok (.getfield 55, 3) := by decide +kernel
theorem dX2_gather_56 : decode cX2_gather 56 = .ok (.invokestatic 73, 3) := by decide +kernel
theorem dX2_gather_59 : decode cX2_gather 59 = .ok (.istore_n 2, 1) := by decide +kernel
theorem dX2_gather_60 : decode cX2_gather 60 = .ok (.iload_n 2, 1) := by decide +kernel
theorem dX2_gather_61 : decode cX2_gather 61 = .ok (.sipush 1024, 3) := by decide +kernel
theorem dX2_gather_64 : decode cX2_gather 64 = .ok (.if_icmp .le 5, 3) := by decide +kernel
theorem dX2_gather_67 : decode cX2_gather 67 = .ok (.iconst 0, 1) := by decide +kernel
theorem dX2_gather_68 : decode cX2_gather 68 = .ok (.ireturn, 1) := by decide +kernel
theorem dX2_gather_69 : decode cX2_gather 69 = .ok (.aload_n 0, 1) := by decide +kernel
theorem dX2_gather_70 : decode cX2_gather 70 = .ok (.iload_n 2, 1) := by decide +kernel
theorem dX2_gather_71 : decode cX2_gather 71 = .ok (.putfield 77, 3) := by decide +kernel
theorem dX2_gather_74 : decode cX2_gather 74 = .ok (.iconst 0, 1) := by decide +kernel
theorem dX2_gather_75 : decode cX2_gather 75 = .ok (.istore_n 3, 1) := by decide +kernel
theorem dX2_gather_76 : decode cX2_gather 76 = .ok (.iload_n 3, 1) := by decide +kernel
theorem dX2_gather_77 : decode cX2_gather 77 = .ok (.aload_n 0, 1) := by decide +kernel
theorem dX2_gather_78 : decode cX2_gather 78 = .ok (.getfield 77, 3) := by decide +kernel
theorem dX2_gather_81 : decode cX2_gather 81 = .ok (.if_icmp .ge 39, 3) := by decide +kernel
theorem dX2_gather_84 : decode cX2_gather 84 = .ok (.aload_n 0, 1) := by decide +kernel
theorem dX2_gather_85 : decode cX2_gather 85 = .ok (.getfield 17, 3) := by decide +kernel
theorem dX2_gather_88 : decode cX2_gather 88 = .ok (.iload_n 3, 1) := by decide +kernel
theorem dX2_gather_89 : decode cX2_gather 89 = .ok (.aload_n 0, 1) := by decide +kernel
theorem dX2_gather_90 : decode cX2_gather 90 = .ok (.getfield 13, 3) := by decide +kernel
theorem dX2_gather_93 : decode cX2_gather 93 = .ok (.iload_n 3, 1) := by decide +kernel
theorem dX2_gather_94 : decode cX2_gather 94 = .ok (.laload, 1) := by decide +kernel
theorem dX2_gather_95 : decode cX2_gather 95 = .ok (.invokestatic 80, 3) := by decide +kernel
theorem dX2_gather_98 : decode cX2_gather 98 = .ok (.iastore, 1) := by decide +kernel
theorem dX2_gather_99 : decode cX2_gather 99 = .ok (.aload_n 0, 1) := by decide +kernel
theorem dX2_gather_100 : decode cX2_gather 100 = .ok (.getfield 21, 3) := by decide +kernel
theorem dX2_gather_103 : decode cX2_gather 103 = .ok (.iload_n 3, 1) := by decide +kernel
theorem dX2_gather_104 : decode cX2_gather 104 = .ok (.aload_n 0, 1) := by decide +kernel
theorem dX2_gather_105 : decode cX2_gather 105 = .ok (.getfield 13, 3) := by decide +kernel
theorem dX2_gather_108 : decode cX2_gather 108 = .ok (.iload_n 3, 1) := by decide +kernel
theorem dX2_gather_109 : decode cX2_gather 109 = .ok (.laload, 1) := by decide +kernel
theorem dX2_gather_110 : decode cX2_gather 110 = .ok (.invokestatic 84, 3) := by decide +kernel
theorem dX2_gather_113 : decode cX2_gather 113 = .ok (.iastore, 1) := by decide +kernel
theorem dX2_gather_114 : decode cX2_gather 114 = .ok (.iinc 3 1, 3) := by decide +kernel
theorem dX2_gather_117 : decode cX2_gather 117 = .ok (.goto (-41), 3) := by decide +kernel
theorem dX2_gather_120 : decode cX2_gather 120 = .ok (.aload_n 0, 1) := by decide +kernel
theorem dX2_gather_121 : decode cX2_gather 121 = .ok (.aload_n 1, 1) := by decide +kernel
theorem dX2_gather_122 : decode cX2_gather 122 = .ok (.invokevirtual 87, 3) := by decide +kernel
theorem dX2_gather_125 : decode cX2_gather 125 = .ok (.iconst 1, 1) := by decide +kernel
theorem dX2_gather_126 : decode cX2_gather 126 = .ok (.ireturn, 1) := by decide +kernel
abbrev M_X2_gather : MRec := (yX2_gather, cX2_gather, 4, (some Jvm.ClassFile.FieldType.boolean), [])
theorem m_X2_gather : en_M M_X2_gather 1 := ⟨t_2086, t_12, ⟨by decide +kernel, by decide +kernel⟩, by decide +kernel, by decide +kernel, by decide +kernel⟩
theorem dX2_turnAt_0 : decode cX2_turnAt 0 = .ok (.aload_n 0, 1) := by decide +kernel
theorem dX2_turnAt_1 : decode cX2_turnAt 1 = .ok (.getfield 17, 3) := by decide +kernel
theorem dX2_turnAt_4 : decode cX2_turnAt 4 = .ok (.iload_n 1, 1) := by decide +kernel
theorem dX2_turnAt_5 : decode cX2_turnAt 5 = .ok (.iaload, 1) := by decide +kernel
theorem dX2_turnAt_6 : decode cX2_turnAt 6 = .ok (.i2l, 1) := by decide +kernel
theorem dX2_turnAt_7 : decode cX2_turnAt 7 = .ok (.aload_n 0, 1) := by decide +kernel
theorem dX2_turnAt_8 : decode cX2_turnAt 8 = .ok (.getfield 21, 3) := by decide +kernel
theorem dX2_turnAt_11 : decode cX2_turnAt 11 = .ok (.iload_n 1, 1) := by decide +kernel
theorem dX2_turnAt_12 : decode cX2_turnAt 12 = .ok (.iaload, 1) := by decide +kernel
theorem dX2_turnAt_13 : decode cX2_turnAt 13 = .ok (.i2l, 1) := by decide +kernel
theorem dX2_turnAt_14 : decode cX2_turnAt 14 = .ok (.aload_n 0, 1) := by decide +kernel
theorem dX2_turnAt_15 : decode cX2_turnAt 15 = .ok (.getfield 17, 3) := by decide +kernel
theorem dX2_turnAt_18 : decode cX2_turnAt 18 = .ok (.iload_n 2, 1) := by decide +kernel
theorem dX2_turnAt_19 : decode cX2_turnAt 19 = .ok (.iaload, 1) := by decide +kernel
theorem dX2_turnAt_20 : decode cX2_turnAt 20 = .ok (.i2l, 1) := by decide +kernel
theorem dX2_turnAt_21 : decode cX2_turnAt 21 = .ok (.aload_n 0, 1) := by decide +kernel
theorem dX2_turnAt_22 : decode cX2_turnAt 22 = .ok (.getfield 21, 3) := by decide +kernel
theorem dX2_turnAt_25 : decode cX2_turnAt 25 = .ok (.iload_n 2, 1) := by decide +kernel
theorem dX2_turnAt_26 : decode cX2_turnAt 26 = .ok (.iaload, 1) := by decide +kernel
theorem dX2_turnAt_27 : decode cX2_turnAt 27 = .ok (.i2l, 1) := by decide +kernel
theorem dX2_turnAt_28 : decode cX2_turnAt 28 = .ok (.aload_n 0, 1) := by decide +kernel
theorem dX2_turnAt_29 : decode cX2_turnAt 29 = .ok (.getfield 17, 3) := by decide +kernel
theorem dX2_turnAt_32 : decode cX2_turnAt 32 = .ok (.iload_n 3, 1) := by decide +kernel
theorem dX2_turnAt_33 : decode cX2_turnAt 33 = .ok (.iaload, 1) := by decide +kernel
theorem dX2_turnAt_34 : decode cX2_turnAt 34 = .ok (.i2l, 1) := by decide +kernel
theorem dX2_turnAt_35 : decode cX2_turnAt 35 = .ok (.aload_n 0, 1) := by decide +kernel
theorem dX2_turnAt_36 : decode cX2_turnAt 36 = .ok (.getfield 21, 3) := by decide +kernel
theorem dX2_turnAt_39 : decode cX2_turnAt 39 = .ok (.iload_n 3, 1) := by decide +kernel
theorem dX2_turnAt_40 : decode cX2_turnAt 40 = .ok (.iaload, 1) := by decide +kernel
theorem dX2_turnAt_41 : decode cX2_turnAt 41 = .ok (.i2l, 1) := by decide +kernel
theorem dX2_turnAt_42 : decode cX2_turnAt 42 = .ok (.invokestatic 100, 3) := by decide +kernel
theorem dX2_turnAt_45 : decode cX2_turnAt 45 = .ok (.ireturn, 1) := by decide +kernel
abbrev M_X2_turnAt : MRec := (yX2_turnAt, cX2_turnAt, 4, (some Jvm.ClassFile.FieldType.int), [])
theorem m_X2_turnAt : en_M M_X2_turnAt 3 := ⟨t_2116, t_12, ⟨by decide +kernel, by decide +kernel⟩, by decide +kernel, by decide +kernel, by decide +kernel⟩
theorem dX2_cornersBefore_0 : decode cX2_cornersBefore 0 = .ok (.iload_n 2, 1) := by decide +kernel
theorem dX2_cornersBefore_1 : decode cX2_cornersBefore 1 = .ok (.istore 4, 2) := by decide +kernel
theorem dX2_cornersBefore_3 : decode cX2_cornersBefore 3 = .ok (.iload 4, 2) := by decide +kernel
theorem dX2_cornersBefore_5 : decode cX2_cornersBefore 5 = .ok (.iload_n 3, 1) := by decide +kernel
theorem dX2_cornersBefore_6 : decode cX2_cornersBefore 6 = .ok (.if_icmp .lt 35, 3) := by decide +kernel
theorem dX2_cornersBefore_9 : decode cX2_cornersBefore 9 = .ok (.aload_n 0, 1) := by decide +kernel
theorem dX2_cornersBefore_10 : decode cX2_cornersBefore 10 = .ok (.aload_n 0, 1) := by decide +kernel
theorem dX2_cornersBefore_11 : decode cX2_cornersBefore 11 = .ok (.getfield 30, 3) := by decide +kernel
theorem dX2_cornersBefore_14 : decode cX2_cornersBefore 14 = .ok (.iload 4, 2) := by decide +kernel
theorem dX2_cornersBefore_16 : decode cX2_cornersBefore 16 = .ok (.iconst 2, 1) := by decide +kernel
theorem dX2_cornersBefore_17 : decode cX2_cornersBefore 17 = .ok (.isub, 1) := by decide +kernel
theorem dX2_cornersBefore_18 : decode cX2_cornersBefore 18 = .ok (.iaload, 1) := by decide +kernel
theorem dX2_cornersBefore_19 : decode cX2_cornersBefore 19 = .ok (.aload_n 0, 1) := by decide +kernel
theorem dX2_cornersBefore_20 : decode cX2_cornersBefore 20 = .ok (.getfield 30, 3) := by decide +kernel
theorem dX2_cornersBefore_23 : decode cX2_cornersBefore 23 = .ok (.iload 4, 2) := by decide +kernel
theorem dX2_cornersBefore_25 : decode cX2_cornersBefore 25 = .ok (.iconst 1, 1) := by decide +kernel
theorem dX2_cornersBefore_26 : decode cX2_cornersBefore 26 = .ok (.isub, 1) := by decide +kernel
theorem dX2_cornersBefore_27 : decode cX2_cornersBefore 27 = .ok (.iaload, 1) := by decide +kernel
theorem dX2_cornersBefore_28 : decode cX2_cornersBefore 28 = .ok (.iload_n 1, 1) := by decide +kernel
theorem dX2_cornersBefore_29 : decode cX2_cornersBefore 29 = .ok (.invokevirtual 108, 3) := by decide +kernel
theorem dX2_cornersBefore_32 : decode cX2_cornersBefore 32 = .ok (.ifCond .gt 9, 3) := by decide +kernel
theorem dX2_cornersBefore_35 : decode cX2_cornersBefore 35 = .ok (.iinc 4 (-1), 3) := by decide +kernel
theorem dX2_cornersBefore_38 : decode cX2_cornersBefore 38 = .ok (.goto (-35), 3) := by decide +kernel
theorem dX2_cornersBefore_41 : decode cX2_cornersBefore 41 = .ok (.iload 4, 2) := by decide +kernel
theorem dX2_cornersBefore_43 : decode cX2_cornersBefore 43 = .ok (.ireturn, 1) := by decide +kernel
abbrev M_X2_cornersBefore : MRec := (yX2_cornersBefore, cX2_cornersBefore, 5, (some Jvm.ClassFile.FieldType.int), [])
theorem m_X2_cornersBefore : en_M M_X2_cornersBefore 3 := ⟨t_2112, t_12, ⟨by decide +kernel, by decide +kernel⟩, by decide +kernel, by decide +kernel, by decide +kernel⟩
theorem dX2_findCorners_0 : decode cX2_findCorners 0 = .ok (.iconst 0, 1) := by decide +kernel
theorem dX2_findCorners_1 : decode cX2_findCorners 1 = .ok (.istore_n 1, 1) := by decide +kernel
theorem dX2_findCorners_2 : decode cX2_findCorners 2 = .ok (.iconst 0, 1) := by decide +kernel
theorem dX2_findCorners_3 : decode cX2_findCorners 3 = .ok (.istore_n 2, 1) := by decide +kernel
theorem dX2_findCorners_4 : decode cX2_findCorners 4 = .ok (.iload_n 2, 1) := by decide +kernel
theorem dX2_findCorners_5 : decode cX2_findCorners 5 = .ok (.aload_n 0, 1) := by decide +kernel
theorem dX2_findCorners_6 : decode cX2_findCorners 6 = .ok (.getfield 77, 3) := by decide +kernel
theorem dX2_findCorners_9 : decode cX2_findCorners 9 = .ok (.if_icmp .ge 27, 3) := by decide +kernel
theorem dX2_findCorners_12 : decode cX2_findCorners 12 = .ok (.aload_n 0, 1) := by decide +kernel
theorem dX2_findCorners_13 : decode cX2_findCorners 13 = .ok (.iload_n 2, 1) := by decide +kernel
theorem dX2_findCorners_14 : decode cX2_findCorners 14 = .ok (.iload_n 1, 1) := by decide +kernel
theorem dX2_findCorners_15 : decode cX2_findCorners 15 = .ok (.iconst 2, 1) := by decide +kernel
theorem dX2_findCorners_16 : decode cX2_findCorners 16 = .ok (.invokevirtual 104, 3) := by decide +kernel
theorem dX2_findCorners_19 : decode cX2_findCorners 19 = .ok (.istore_n 1, 1) := by decide +kernel
theorem dX2_findCorners_20 : decode cX2_findCorners 20 = .ok (.aload_n 0, 1) := by decide +kernel
theorem dX2_findCorners_21 : decode cX2_findCorners 21 = .ok (.getfield 30, 3) := by decide +kernel
theorem dX2_findCorners_24 : decode cX2_findCorners 24 = .ok (.iload_n 1, 1) := by decide +kernel
theorem dX2_findCorners_25 : decode cX2_findCorners 25 = .ok (.iload_n 2, 1) := by decide +kernel
theorem dX2_findCorners_26 : decode cX2_findCorners 26 = .ok (.iastore, 1) := by decide +kernel
theorem dX2_findCorners_27 : decode cX2_findCorners 27 = .ok (.iinc 1 1, 3) := by decide +kernel
theorem dX2_findCorners_30 : decode cX2_findCorners 30 = .ok (.iinc 2 1, 3) := by decide +kernel
theorem dX2_findCorners_33 : decode cX2_findCorners 33 = .ok (.goto (-29), 3) := by decide +kernel
theorem dX2_findCorners_36 : decode cX2_findCorners 36 = .ok (.iload_n 1, 1) := by decide +kernel
theorem dX2_findCorners_37 : decode cX2_findCorners 37 = .ok (.iconst 1, 1) := by decide +kernel
theorem dX2_findCorners_38 : decode cX2_findCorners 38 = .ok (.iadd, 1) := by decide +kernel
theorem dX2_findCorners_39 : decode cX2_findCorners 39 = .ok (.istore_n 2, 1) := by decide +kernel
theorem dX2_findCorners_40 : decode cX2_findCorners 40 = .ok (.aload_n 0, 1) := by decide +kernel
theorem dX2_findCorners_41 : decode cX2_findCorners 41 = .ok (.getfield 77, 3) := by decide +kernel
theorem dX2_findCorners_44 : decode cX2_findCorners 44 = .ok (.iconst 2, 1) := by decide +kernel
theorem dX2_findCorners_45 : decode cX2_findCorners 45 = .ok (.isub, 1) := by decide +kernel
theorem dX2_findCorners_46 : decode cX2_findCorners 46 = .ok (.istore_n 3, 1) := by decide +kernel
theorem dX2_findCorners_47 : decode cX2_findCorners 47 = .ok (.iload_n 3, 1) := by decide +kernel
theorem dX2_findCorners_48 : decode cX2_findCorners 48 = .ok (.ifCond .lt 27, 3) := by decide +kernel
theorem dX2_findCorners_51 : decode cX2_findCorners 51 = .ok (.aload_n 0, 1) := by decide +kernel
theorem dX2_findCorners_52 : decode cX2_findCorners 52 = .ok (.iload_n 3, 1) := by decide +kernel
theorem dX2_findCorners_53 : decode cX2_findCorners 53 = .ok (.iload_n 1, 1) := by decide +kernel
theorem dX2_findCorners_54 : decode cX2_findCorners 54 = .ok (.iload_n 2, 1) := by decide +kernel
theorem dX2_findCorners_55 : decode cX2_findCorners 55 = .ok (.invokevirtual 104, 3) := by decide +kernel
theorem dX2_findCorners_58 : decode cX2_findCorners 58 = .ok (.istore_n 1, 1) := by decide +kernel
theorem dX2_findCorners_59 : decode cX2_findCorners 59 = .ok (.aload_n 0, 1) := by decide +kernel
theorem dX2_findCorners_60 : decode cX2_findCorners 60 = .ok (.getfield 30, 3) := by decide +kernel
theorem dX2_findCorners_63 : decode cX2_findCorners 63 = .ok (.iload_n 1, 1) := by decide +kernel
theorem dX2_findCorners_64 : decode cX2_findCorners 64 = .ok (.iload_n 3, 1) := by decide +kernel
theorem dX2_findCorners_65 : decode cX2_findCorners 65 = .ok (.iastore, 1) := by decide +kernel
theorem dX2_findCorners_66 : decode cX2_findCorners 66 = .ok (.iinc 1 1, 3) := by decide +kernel
theorem dX2_findCorners_69 : decode cX2_findCorners 69 = .ok (.iinc 3 (-1), 3) := by decide +kernel
theorem dX2_findCorners_72 : decode cX2_findCorners 72 = .ok (.goto (-25), 3) := by decide +kernel
theorem dX2_findCorners_75 : decode cX2_findCorners 75 = .ok (.aload_n 0, 1) := by decide +kernel
theorem dX2_findCorners_76 : decode cX2_findCorners 76 = .ok (.getfield 77, 3) := by decide +kernel
theorem dX2_findCorners_79 : decode cX2_findCorners 79 = .ok (.iconst 1, 1) := by decide +kernel
theorem dX2_findCorners_80 : decode cX2_findCorners 80 = .ok (.if_icmp .le 9, 3) := by decide +kernel
theorem dX2_findCorners_83 : decode cX2_findCorners 83 = .ok (.iload_n 1, 1) := by decide +kernel
theorem dX2_findCorners_84 : decode cX2_findCorners 84 = .ok (.iconst 1, 1) := by decide +kernel
theorem dX2_findCorners_85 : decode cX2_findCorners 85 = .ok (.isub, 1) := by decide +kernel
theorem dX2_findCorners_86 : decode cX2_findCorners 86 = .ok (.goto 4, 3) := by decide +kernel
theorem dX2_findCorners_89 : decode cX2_findCorners 89 = .ok (.iload_n 1, 1) := by decide +kernel
theorem dX2_findCorners_90 : decode cX2_findCorners 90 = .ok (.ireturn, 1) := by decide +kernel
abbrev M_X2_findCorners : MRec := (yX2_findCorners, cX2_findCorners, 4, (some Jvm.ClassFile.FieldType.int), [])
theorem m_X2_findCorners : en_M M_X2_findCorners 0 := ⟨t_2108, t_12, ⟨by decide +kernel, by decide +kernel⟩, by decide +kernel, by decide +kernel, by decide +kernel⟩
theorem dX2_span_0 : decode cX2_span 0 = .ok (.aload_n 0, 1) := by decide +kernel
theorem dX2_span_1 : decode cX2_span 1 = .ok (.invokevirtual 111, 3) := by decide +kernel
theorem dX2_span_4 : decode cX2_span 4 = .ok (.istore_n 2, 1) := by decide +kernel
theorem dX2_span_5 : decode cX2_span 5 = .ok (.aload_n 1, 1) := by decide +kernel
theorem dX2_span_6 : decode cX2_span 6 = .ok (.invokevirtual 115, 3) := by decide +kernel
theorem dX2_span_9 : decode cX2_span 9 = .ok (.iload_n 2, 1) := by decide +kernel
theorem dX2_span_10 : decode cX2_span 10 = .ok (.ifCond .ne 14, 3) := by decide +kernel
theorem dX2_span_13 : decode cX2_span 13 = .ok (.aload_n 1, 1) := by decide +kernel
theorem dX2_span_14 : decode cX2_span 14 = .ok (.bipush 7, 2) := by decide +kernel
theorem dX2_span_16 : decode cX2_span 16 = .ok (.iconst 0, 1) := by decide +kernel
theorem dX2_span_17 : decode cX2_span 17 = .ok (.invokevirtual 118, 3) := by decide +kernel
theorem dX2_span_20 : decode cX2_span 20 = .ok (.pop, 1) := by decide +kernel
theorem dX2_span_21 : decode cX2_span 21 = .ok (.goto 42, 3) := by decide +kernel
theorem dX2_span_24 : decode cX2_span 24 = .ok (.iload_n 2, 1) := by decide +kernel
theorem dX2_span_25 : decode cX2_span 25 = .ok (.iconst 3, 1) := by decide +kernel
theorem dX2_span_26 : decode cX2_span 26 = .ok (.if_icmp .ge 22, 3) := by decide +kernel
theorem dX2_span_29 : decode cX2_span 29 = .ok (.aload_n 1, 1) := by decide +kernel
theorem dX2_span_30 : decode cX2_span 30 = .ok (.iload_n 2, 1) := by decide +kernel
theorem dX2_span_31 : decode cX2_span 31 = .ok (.iconst 1, 1) := by decide +kernel
theorem dX2_span_32 : decode cX2_span 32 = .ok (.if_icmp .ne 7, 3) := by decide +kernel
theorem dX2_span_35 : decode cX2_span 35 = .ok (.iconst 1, 1) := by decide +kernel
theorem dX2_span_36 : decode cX2_span 36 = .ok (.goto 4, 3) := by decide +kernel
theorem dX2_span_39 : decode cX2_span 39 = .ok (.iconst 2, 1) := by decide +kernel
theorem dX2_span_40 : decode cX2_span 40 = .ok (.iload_n 2, 1) := by decide +kernel
theorem dX2_span_41 : decode cX2_span 41 = .ok (.invokevirtual 118, 3) := by decide +kernel
theorem dX2_span_44 : decode cX2_span 44 = .ok (.pop, 1) := by decide +kernel
theorem dX2_span_45 : decode cX2_span 45 = .ok (.goto 18, 3) := by decide +kernel
theorem dX2_span_48 : decode cX2_span 48 = .ok (.aload_n 1, 1) := by decide +kernel
theorem dX2_span_49 : decode cX2_span 49 = .ok (.iconst 3, 1) := by decide +kernel
theorem dX2_span_50 : decode cX2_span 50 = .ok (.iconst 1, 1) := by decide +kernel
theorem dX2_span_51 : decode cX2_span 51 = .ok (.invokevirtual 118, 3) := by decide +kernel
theorem dX2_span_54 : decode cX2_span 54 = .ok (.pop, 1) := by decide +kernel
theorem dX2_span_55 : decode cX2_span 55 = .ok (.aload_n 1, 1) := by decide +kernel
theorem dX2_span_56 : decode cX2_span 56 = .ok (.iload_n 2, 1) := by decide +kernel
theorem dX2_span_57 : decode cX2_span 57 = .ok (.iconst 1, 1) := by decide +kernel
theorem dX2_span_58 : decode cX2_span 58 = .ok (.iadd, 1) := by decide +kernel
theorem dX2_span_59 : decode cX2_span 59 = .ok (.invokevirtual 122, 3) := by decide +kernel
theorem dX2_span_62 : decode cX2_span 62 = .ok (.pop, 1) := by decide +kernel
theorem dX2_span_63 : decode cX2_span 63 = .ok (.iconst 0, 1) := by decide +kernel
theorem dX2_span_64 : decode cX2_span 64 = .ok (.istore_n 3, 1) := by decide +kernel
theorem dX2_span_65 : decode cX2_span 65 = .ok (.iload_n 3, 1) := by decide +kernel
theorem dX2_span_66 : decode cX2_span 66 = .ok (.iload_n 2, 1) := by decide +kernel
theorem dX2_span_67 : decode cX2_span 67 = .ok (.if_icmp .ge 36, 3) := by decide +kernel
theorem dX2_span_70 : decode cX2_span 70 = .ok (.aload_n 1, 1) := by decide +kernel
theorem dX2_span_71 : decode cX2_span 71 = .ok (.aload_n 0, 1) := by decide +kernel
theorem dX2_span_72 : decode cX2_span 72 = .ok (.getfield 17, 3) := by decide +kernel
theorem dX2_span_75 : decode cX2_span 75 = .ok (.aload_n 0, 1) := by decide +kernel
theorem dX2_span_76 : decode cX2_span 76 = .ok (.getfield 30, 3) := by decide +kernel
theorem dX2_span_79 : decode cX2_span 79 = .ok (.iload_n 3, 1) := by decide +kernel
theorem dX2_span_80 : decode cX2_span 80 = .ok (.iaload, 1) := by decide +kernel
theorem dX2_span_81 : decode cX2_span 81 = .ok (.iaload, 1) := by decide +kernel
theorem dX2_span_82 : decode cX2_span 82 = .ok (.aload_n 0, 1) := by decide +kernel
theorem dX2_span_83 : decode cX2_span 83 = .ok (.getfield 21, 3) := by decide +kernel
theorem dX2_span_86 : decode cX2_span 86 = .ok (.aload_n 0, 1) := by decide +kernel
theorem dX2_span_87 : decode cX2_span 87 = .ok (.getfield 30, 3) := by decide +kernel
theorem dX2_span_90 : decode cX2_span 90 = .ok (.iload_n 3, 1) := by decide +kernel
theorem dX2_span_91 : decode cX2_span 91 = .ok (.iaload, 1) := by decide +kernel
theorem dX2_span_92 : decode cX2_span 92 = .ok (.iaload, 1) := by decide +kernel
theorem dX2_span_93 : decode cX2_span 93 = .ok (.invokevirtual 126, 3) := by decide +kernel
theorem dX2_span_96 : decode cX2_span 96 = .ok (.pop, 1) := by decide +kernel
theorem dX2_span_97 : decode cX2_span 97 = .ok (.iinc 3 1, 3) := by decide +kernel
theorem dX2_span_100 : decode cX2_span 100 = .ok (.goto (-35), 3) := by decide +kernel
theorem dX2_span_103 : decode cX2_span 103 = .ok (.iload_n 2, 1) := by decide +kernel
theorem dX2_span_104 : decode cX2_span 104 = .ok (.iconst 2, 1) := by decide +kernel
theorem dX2_span_105 : decode cX2_span 105 = .ok (.if_icmp .le 30, 3) := by decide +kernel
theorem dX2_span_108 : decode cX2_span 108 = .ok (.aload_n 1, 1) := by decide +kernel
theorem dX2_span_109 : decode cX2_span 109 = .ok (.aload_n 0, 1) := by decide +kernel
theorem dX2_span_110 : decode cX2_span 110 = .ok (.getfield 17, 3) := by decide +kernel
theorem dX2_span_113 : decode cX2_span 113 = .ok (.aload_n 0, 1) := by decide +kernel
theorem dX2_span_114 : decode cX2_span 114 = .ok (.getfield 30, 3) := by decide +kernel
theorem dX2_span_117 : decode cX2_span 117 = .ok (.iconst 0, 1) := by decide +kernel
theorem dX2_span_118 : decode cX2_span 118 = .ok (.iaload, 1) := by decide +kernel
theorem dX2_span_119 : decode cX2_span 119 = .ok (.iaload, 1) := by decide +kernel
theorem dX2_span_120 : decode cX2_span 120 = .ok (.aload_n 0, 1) := by decide +kernel
theorem dX2_span_121 : decode cX2_span 121 = .ok (.getfield 21, 3) := by decide +kernel
theorem dX2_span_124 : decode cX2_span 124 = .ok (.aload_n 0, 1) := by decide +kernel
theorem dX2_span_125 : decode cX2_span 125 = .ok (.getfield 30, 3) := by decide +kernel
theorem dX2_span_128 : decode cX2_span 128 = .ok (.iconst 0, 1) := by decide +kernel
theorem dX2_span_129 : decode cX2_span 129 = .ok (.iaload, 1) := by decide +kernel
theorem dX2_span_130 : decode cX2_span 130 = .ok (.iaload, 1) := by decide +kernel
theorem dX2_span_131 : decode cX2_span 131 = .ok (.invokevirtual 126, 3) := by decide +kernel
theorem dX2_span_134 : decode cX2_span 134 = .ok (.pop, 1) := by decide +kernel
theorem dX2_span_135 : decode cX2_span 135 = .ok (.iload_n 2, 1) := by decide +kernel
theorem dX2_span_136 : decode cX2_span 136 = .ok (.ireturn, 1) := by decide +kernel
abbrev M_X2_span : MRec := (yX2_span, cX2_span, 4, (some Jvm.ClassFile.FieldType.int), [])
theorem m_X2_span : en_M M_X2_span 1 := ⟨t_2104, t_12, ⟨by decide +kernel, by decide +kernel⟩, by decide +kernel, by decide +kernel, by decide +kernel⟩
theorem dX11_hull_0 : decode cX11_hull 0 = .ok (.aload_n 0, 1) := by decide +kernel
theorem dX11_hull_1 : decode cX11_hull 1 = .ok (.iload_n 1, 1) := by decide +kernel
theorem dX11_hull_2 : decode cX11_hull 2 = .ok (.invokevirtual 140, 3) := by decide +kernel
theorem dX11_hull_5 : decode cX11_hull 5 = .ok (.astore_n 3, 1) := by decide +kernel
theorem dX11_hull_6 : decode cX11_hull 6 = .ok (.aload_n 0, 1) := by decide +kernel
theorem dX11_hull_7 : decode cX11_hull 7 = .ok (.iload_n 2, 1) := by decide +kernel
theorem dX11_hull_8 : decode cX11_hull 8 = .ok (.invokevirtual 140, 3) := by decide +kernel
theorem dX11_hull_11 : decode cX11_hull 11 = .ok (.astore 4, 2) := by decide +kernel
theorem dX11_hull_13 : decode cX11_hull 13 = .ok (.aload_n 3, 1) := by decide +kernel
theorem dX11_hull_14 : decode cX11_hull 14 = .ok (.invokestatic 172, 3) := by decide +kernel
theorem dX11_hull_17 : decode cX11_hull 17 = .ok (.aload_n 0, 1) := by decide +kernel
theorem dX11_hull_18 : decode cX11_hull 18 = .ok (.getfield 83, 3) := by decide +kernel
theorem dX11_hull_21 : decode cX11_hull 21 = .ok (.aload_n 3, 1) := by decide +kernel
theorem dX11_hull_22 : decode cX11_hull 22 = .ok (.invokevirtual 280, 3) := by decide +kernel
theorem dX11_hull_25 : decode cX11_hull 25 = .ok (.ifCond .ne 11, 3) := by decide +kernel
theorem dX11_hull_28 : decode cX11_hull 28 = .ok (.new 232, 3) := by decide +kernel
theorem dX11_hull_31 : decode cX11_hull 31 = .ok (.dup, 1) := by decide +kernel
theorem dX11_hull_32 : decode cX11_hull 32 = .ok (.invokespecial 234, 3) := by decide +kernel
theorem dX11_hull_35 : decode cX11_hull 35 = .ok (.athrow, 1) := by decide +kernel
theorem dX11_hull_36 : decode cX11_hull 36 = .ok (.aload_n 0, 1) := by decide +kernel
theorem dX11_hull_37 : decode cX11_hull 37 = .ok (.getfield 83, 3) := by decide +kernel
theorem dX11_hull_40 : decode cX11_hull 40 = .ok (.aload 4, 2) := by decide +kernel
theorem dX11_hull_42 : decode cX11_hull 42 = .ok (.invokevirtual 283, 3) := by decide +kernel
theorem dX11_hull_45 : decode cX11_hull 45 = .ok (.ireturn, 1) := by decide +kernel
abbrev M_X11_hull : MRec := (yX11_hull, cX11_hull, 5, (some Jvm.ClassFile.FieldType.int), [])
theorem m_X11_hull : en_M M_X11_hull 2 := ⟨t_2082, t_1, ⟨by decide +kernel, by decide +kernel⟩, by decide +kernel, by decide +kernel, by decide +kernel⟩
theorem dX2_tellTriangles_0 : decode cX2_tellTriangles 0 = .ok (.aload_n 1, 1) := by decide +kernel
theorem dX2_tellTriangles_1 : decode cX2_tellTriangles 1 = .ok (.invokevirtual 115, 3) := by decide +kernel
theorem dX2_tellTriangles_4 : decode cX2_tellTriangles 4 = .ok (.aload_n 1, 1) := by decide +kernel
theorem dX2_tellTriangles_5 : decode cX2_tellTriangles 5 = .ok (.bipush 6, 2) := by decide +kernel
theorem dX2_tellTriangles_7 : decode cX2_tellTriangles 7 = .ok (.aload_n 0, 1) := by decide +kernel
theorem dX2_tellTriangles_8 : decode cX2_tellTriangles 8 = .ok (.getfield 129, 3) := by decide +kernel
theorem dX2_tellTriangles_11 : decode cX2_tellTriangles 11 = .ok (.invokevirtual 118, 3) := by decide +kernel
theorem dX2_tellTriangles_14 : decode cX2_tellTriangles 14 = .ok (.pop, 1) := by decide +kernel
theorem dX2_tellTriangles_15 : decode cX2_tellTriangles 15 = .ok (.iconst 0, 1) := by decide +kernel
theorem dX2_tellTriangles_16 : decode cX2_tellTriangles 16 = .ok (.istore_n 2, 1) := by decide +kernel
theorem dX2_tellTriangles_17 : decode cX2_tellTriangles 17 = .ok (.iload_n 2, 1) := by decide +kernel
theorem dX2_tellTriangles_18 : decode cX2_tellTriangles 18 = .ok (.aload_n 0, 1) := by decide +kernel
theorem dX2_tellTriangles_19 : decode cX2_tellTriangles 19 = .ok (.getfield 129, 3) := by decide +kernel
theorem dX2_tellTriangles_22 : decode cX2_tellTriangles 22 = .ok (.if_icmp .ge 89, 3) := by decide +kernel
theorem dX2_tellTriangles_25 : decode cX2_tellTriangles 25 = .ok (.aload_n 1, 1) := by decide +kernel
theorem dX2_tellTriangles_26 : decode cX2_tellTriangles 26 = .ok (.iconst 3, 1) := by decide +kernel
theorem dX2_tellTriangles_27 : decode cX2_tellTriangles 27 = .ok (.iconst 1, 1) := by decide +kernel
theorem dX2_tellTriangles_28 : decode cX2_tellTriangles 28 = .ok (.invokevirtual 118, 3) := by decide +kernel
theorem dX2_tellTriangles_31 : decode cX2_tellTriangles 31 = .ok (.pop, 1) := by decide +kernel
theorem dX2_tellTriangles_32 : decode cX2_tellTriangles 32 = .ok (.aload_n 1, 1) := by decide +kernel
theorem dX2_tellTriangles_33 : decode cX2_tellTriangles 33 = .ok (.iconst 4, 1) := by decide +kernel
theorem dX2_tellTriangles_34 : decode cX2_tellTriangles 34 = .ok (.invokevirtual 122, 3) := by decide +kernel
theorem dX2_tellTriangles_37 : decode cX2_tellTriangles 37 = .ok (.pop, 1) := by decide +kernel
theorem dX2_tellTriangles_38 : decode cX2_tellTriangles 38 = .ok (.iconst 2, 1) := by decide +kernel
theorem dX2_tellTriangles_39 : decode cX2_tellTriangles 39 = .ok (.istore_n 3, 1) := by decide +kernel
theorem dX2_tellTriangles_40 : decode cX2_tellTriangles 40 = .ok (.iload_n 3, 1) := by decide +kernel
theorem dX2_tellTriangles_41 : decode cX2_tellTriangles 41 = .ok (.iconst (-1), 1) := by decide +kernel
theorem dX2_tellTriangles_42 : decode cX2_tellTriangles 42 = .ok (.if_icmp .lt 63, 3) := by decide +kernel
theorem dX2_tellTriangles_45 : decode cX2_tellTriangles 45 = .ok (.bipush 10, 2) := by decide +kernel
theorem dX2_tellTriangles_47 : decode cX2_tellTriangles 47 = .ok (.iload_n 3, 1) := by decide +kernel
theorem dX2_tellTriangles_48 : decode cX2_tellTriangles 48 = .ok (.ifCond .ge 7, 3) := by decide +kernel
theorem dX2_tellTriangles_51 : decode cX2_tellTriangles 51 = .ok (.iconst 2, 1) := by decide +kernel
theorem dX2_tellTriangles_52 : decode cX2_tellTriangles 52 = .ok (.goto 4, 3) := by decide +kernel
theorem dX2_tellTriangles_55 : decode cX2_tellTriangles 55 = .ok (.iload_n 3, 1) := by decide +kernel
theorem dX2_tellTriangles_56 : decode cX2_tellTriangles 56 = .ok (.imul, 1) := by decide +kernel
theorem dX2_tellTriangles_57 : decode cX2_tellTriangles 57 = .ok (.istore 4, 2) := by decide +kernel
theorem dX2_tellTriangles_59 : decode cX2_tellTriangles 59 = .ok (.aload_n 0, 1) := by decide +kernel
theorem dX2_tellTriangles_60 : decode cX2_tellTriangles 60 = .ok (.getfield 27, 3) := by decide +kernel
theorem dX2_tellTriangles_63 : decode cX2_tellTriangles 63 = .ok (.aload_n 0, 1) := by decide +kernel
theorem dX2_tellTriangles_64 : decode cX2_tellTriangles 64 = .ok (.getfield 45, 3) := by decide +kernel
theorem dX2_tellTriangles_67 : decode cX2_tellTriangles 67 = .ok (.iload_n 2, 1) := by decide +kernel
theorem dX2_tellTriangles_68 : decode cX2_tellTriangles 68 = .ok (.laload, 1) := by decide +kernel
theorem dX2_tellTriangles_69 : decode cX2_tellTriangles 69 = .ok (.iload 4, 2) := by decide +kernel
theorem dX2_tellTriangles_71 : decode cX2_tellTriangles 71 = .ok (.lshr, 1) := by decide +kernel
theorem dX2_tellTriangles_72 : decode cX2_tellTriangles 72 = .ok (.l2i, 1) := by decide +kernel
theorem dX2_tellTriangles_73 : decode cX2_tellTriangles 73 = .ok (.sipush 1023, 3) := by decide +kernel
theorem dX2_tellTriangles_76 : decode cX2_tellTriangles 76 = .ok (.iand, 1) := by decide +kernel
theorem dX2_tellTriangles_77 : decode cX2_tellTriangles 77 = .ok (.iaload, 1) := by decide +kernel
theorem dX2_tellTriangles_78 : decode cX2_tellTriangles 78 = .ok (.istore 5, 2) := by decide +kernel
theorem dX2_tellTriangles_80 : decode cX2_tellTriangles 80 = .ok (.aload_n 1, 1) := by decide +kernel
theorem dX2_tellTriangles_81 : decode cX2_tellTriangles 81 = .ok (.aload_n 0, 1) := by decide +kernel
theorem dX2_tellTriangles_82 : decode cX2_tellTriangles 82 = .ok (.getfield 17, 3) := by decide +kernel
theorem dX2_tellTriangles_85 : decode cX2_tellTriangles 85 = .ok (.iload 5, 2) := by decide +kernel
theorem dX2_tellTriangles_87 : decode cX2_tellTriangles 87 = .ok (.iaload, 1) := by decide +kernel
theorem dX2_tellTriangles_88 : decode cX2_tellTriangles 88 = .ok (.aload_n 0, 1) := by decide +kernel
theorem dX2_tellTriangles_89 : decode cX2_tellTriangles 89 = .ok (.getfield 21, 3) := by decide +kernel
theorem dX2_tellTriangles_92 : decode cX2_tellTriangles 92 = .ok (.iload 5, 2) := by decide +kernel
theorem dX2_tellTriangles_94 : decode cX2_tellTriangles 94 = .ok (.iaload, 1) := by decide +kernel
theorem dX2_tellTriangles_95 : decode cX2_tellTriangles 95 = .ok (.invokevirtual 126, 3) := by decide +kernel
theorem dX2_tellTriangles_98 : decode cX2_tellTriangles 98 = .ok (.pop, 1) := by decide +kernel
theorem dX2_tellTriangles_99 : decode cX2_tellTriangles 99 = .ok (.iinc 3 (-1), 3) := by decide +kernel
theorem dX2_tellTriangles_102 : decode cX2_tellTriangles 102 = .ok (.goto (-62), 3) := by decide +kernel
theorem dX2_tellTriangles_105 : decode cX2_tellTriangles 105 = .ok (.iinc 2 1, 3) := by decide +kernel
theorem dX2_tellTriangles_108 : decode cX2_tellTriangles 108 = .ok (.goto (-91), 3) := by decide +kernel
theorem dX2_tellTriangles_111 : decode cX2_tellTriangles 111 = .ok (.aload_n 0, 1) := by decide +kernel
theorem dX2_tellTriangles_112 : decode cX2_tellTriangles 112 = .ok (.getfield 129, 3) := by decide +kernel
theorem dX2_tellTriangles_115 : decode cX2_tellTriangles 115 = .ok (.ireturn, 1) := by decide +kernel
abbrev M_X2_tellTriangles : MRec := (yX2_tellTriangles, cX2_tellTriangles, 6, (some Jvm.ClassFile.FieldType.int), [])
theorem m_X2_tellTriangles : en_M M_X2_tellTriangles 1 := ⟨t_2183, t_12, ⟨by decide +kernel, by decide +kernel⟩, by decide +kernel, by decide +kernel, by decide +kernel⟩
theorem dJ7_fill_bad5a_0 : decode cJ7_fill_bad5a 0 = .ok (.aload_n 0, 1) := by decide +kernel
theorem dJ7_fill_bad5a_1 : decode cJ7_fill_bad5a 1 = .ok (.arraylength, 1) := by decide +kernel
theorem dJ7_fill_bad5a_2 : decode cJ7_fill_bad5a 2 = .ok (.iload_n 1, 1) := by decide +kernel
theorem dJ7_fill_bad5a_3 : decode cJ7_fill_bad5a 3 = .ok (.iload_n 2, 1) := by decide +kernel
theorem dJ7_fill_bad5a_4 : decode cJ7_fill_bad5a 4 = .ok (.invokestatic 13, 3) := by decide +kernel
theorem dJ7_fill_bad5a_7 : decode cJ7_fill_bad5a 7 = .ok (.iload_n 1, 1) := by decide +kernel
theorem dJ7_fill_bad5a_8 : decode cJ7_fill_bad5a 8 = .ok (.istore 5, 2) := by decide +kernel
theorem dJ7_fill_bad5a_10 : decode cJ7_fill_bad5a 10 = .ok (.iload 5, 2) := by decide +kernel
theorem dJ7_fill_bad5a_12 : decode cJ7_fill_bad5a 12 = .ok (.iload_n 2, 1) := by decide +kernel
theorem dJ7_fill_bad5a_13 : decode cJ7_fill_bad5a 13 = .ok (.if_icmp .ge 14, 3) := by decide +kernel
theorem dJ7_fill_bad5a_16 : decode cJ7_fill_bad5a 16 = .ok (.aload_n 0, 1) := by decide +kernel
theorem dJ7_fill_bad5a_17 : decode cJ7_fill_bad5a 17 = .ok (.iload 5, 2) := by decide +kernel
theorem dJ7_fill_bad5a_19 : decode cJ7_fill_bad5a 19 = .ok (.lload_n 3, 1) := by decide +kernel
theorem dJ7_fill_bad5a_20 : decode cJ7_fill_bad5a 20 = .ok (.lastore, 1) := by decide +kernel
theorem dJ7_fill_bad5a_21 : decode cJ7_fill_bad5a 21 = .ok (.iinc 5 1, 3) := by decide +kernel
theorem dJ7_fill_bad5a_24 : decode cJ7_fill_bad5a 24 = .ok (.goto (-14), 3) := by decide +kernel
theorem dJ7_fill_bad5a_27 : decode cJ7_fill_bad5a 27 = .ok (.return_, 1) := by decide +kernel
abbrev M_J7_fill_bad5a : MRec := (yJ7_fill_bad5a, cJ7_fill_bad5a, 6, none, [])
theorem m_J7_fill_bad5a : en_M M_J7_fill_bad5a 4 := ⟨t_2139, t_8, ⟨by decide +kernel, by decide +kernel⟩, by decide +kernel, by decide +kernel, by decide +kernel⟩
theorem dX2_areOnOneLine_0 : decode cX2_areOnOneLine 0 = .ok (.iconst 2, 1) := by decide +kernel
theorem dX2_areOnOneLine_1 : decode cX2_areOnOneLine 1 = .ok (.istore_n 1, 1) := by decide +kernel
theorem dX2_areOnOneLine_2 : decode cX2_areOnOneLine 2 = .ok (.iload_n 1, 1) := by decide +kernel
theorem dX2_areOnOneLine_3 : decode cX2_areOnOneLine 3 = .ok (.aload_n 0, 1) := by decide +kernel
theorem dX2_areOnOneLine_4 : decode cX2_areOnOneLine 4 = .ok (.getfield 77, 3) := by decide +kernel
theorem dX2_areOnOneLine_7 : decode cX2_areOnOneLine 7 = .ok (.if_icmp .ge 21, 3) := by decide +kernel
theorem dX2_areOnOneLine_10 : decode cX2_areOnOneLine 10 = .ok (.aload_n 0, 1) := by decide +kernel
theorem dX2_areOnOneLine_11 : decode cX2_areOnOneLine 11 = .ok (.iconst 0, 1) := by decide +kernel
theorem dX2_areOnOneLine_12 : decode cX2_areOnOneLine 12 = .ok (.iconst 1, 1) := by decide +kernel
theorem dX2_areOnOneLine_13 : decode cX2_areOnOneLine 13 = .ok (.iload_n 1, 1) := by decide +kernel
theorem dX2_areOnOneLine_14 : decode cX2_areOnOneLine 14 = .ok (.invokevirtual 108, 3) := by decide +kernel
theorem dX2_areOnOneLine_17 : decode cX2_areOnOneLine 17 = .ok (.ifCond .eq 5, 3) := by decide +kernel
theorem dX2_areOnOneLine_20 : decode cX2_areOnOneLine 20 = .ok (.iconst 0, 1) := by decide +kernel
theorem dX2_areOnOneLine_21 : decode cX2_areOnOneLine 21 = .ok (.ireturn, 1) := by decide +kernel
theorem dX2_areOnOneLine_22 : decode cX2_areOnOneLine 22 = .ok (.iinc 1 1, 3) := by decide +kernel
theorem dX2_areOnOneLine_25 : decode cX2_areOnOneLine 25 = .ok (.goto (-23), 3) := by decide +kernel
theorem dX2_areOnOneLine_28 : decode cX2_areOnOneLine 28 = .ok (.iconst 1, 1) := by decide +kernel
theorem dX2_areOnOneLine_29 : decode cX2_areOnOneLine 29 = .ok (.ireturn, 1) := by decide +kernel
abbrev M_X2_areOnOneLine : MRec := (yX2_areOnOneLine, cX2_areOnOneLine, 2, (some Jvm.ClassFile.FieldType.boolean), [])
theorem m_X2_areOnOneLine : en_M M_X2_areOnOneLine 0 := ⟨t_2136, t_12, ⟨by decide +kernel, by decide +kernel⟩, by decide +kernel, by decide +kernel, by decide +kernel⟩
theorem dX11_carryOf_0 : decode cX11_carryOf 0 = .ok (.lload_n 0, 1) := by decide +kernel
theorem dX11_carryOf_1 : decode cX11_carryOf 1 = .ok (.ldc2_w 364, 3) := by decide +kernel
theorem dX11_carryOf_4 : decode cX11_carryOf 4 = .ok (.ladd, 1) := by decide +kernel
theorem dX11_carryOf_5 : decode cX11_carryOf 5 = .ok (.lload_n 2, 1) := by decide +kernel
theorem dX11_carryOf_6 : decode cX11_carryOf 6 = .ok (.ldc2_w 364, 3) := by decide +kernel
theorem dX11_carryOf_9 : decode cX11_carryOf 9 = .ok (.ladd, 1) := by decide +kernel
theorem dX11_carryOf_10 : decode cX11_carryOf 10 = .ok (.lcmp, 1) := by decide +kernel
theorem dX11_carryOf_11 : decode cX11_carryOf 11 = .ok (.ifCond .ge 7, 3) := by decide +kernel
theorem dX11_carryOf_14 : decode cX11_carryOf 14 = .ok (.iconst 1, 1) := by decide +kernel
theorem dX11_carryOf_15 : decode cX11_carryOf 15 = .ok (.goto 4, 3) := by decide +kernel
theorem dX11_carryOf_18 : decode cX11_carryOf 18 = .ok (.iconst 0, 1) := by decide +kernel
theorem dX11_carryOf_19 : decode cX11_carryOf 19 = .ok (.ireturn, 1) := by decide +kernel
abbrev M_X11_carryOf : MRec := (yX11_carryOf, cX11_carryOf, 4, (some Jvm.ClassFile.FieldType.int), [])
theorem m_X11_carryOf : en_M M_X11_carryOf 2 := ⟨t_1945, t_1, ⟨by decide +kernel, by decide +kernel⟩, by decide +kernel, by decide +kernel, by decide +kernel⟩
theorem dX11_highOf_0 : decode cX11_highOf 0 = .ok (.ldc2_w 366, 3) := by decide +kernel
theorem dX11_highOf_3 : decode cX11_highOf 3 = .ok (.lstore 4, 2) := by decide +kernel
theorem dX11_highOf_5 : decode cX11_highOf 5 = .ok (.lload_n 0, 1) := by decide +kernel
theorem dX11_highOf_6 : decode cX11_highOf 6 = .ok (.lload 4, 2) := by decide +kernel
theorem dX11_highOf_8 : decode cX11_highOf 8 = .ok (.land, 1) := by decide +kernel
theorem dX11_highOf_9 : decode cX11_highOf 9 = .ok (.lstore 6, 2) := by decide +kernel
theorem dX11_highOf_11 : decode cX11_highOf 11 = .ok (.lload_n 0, 1) := by decide +kernel
theorem dX11_highOf_12 : decode cX11_highOf 12 = .ok (.bipush 32, 2) := by decide +kernel
theorem dX11_highOf_14 : decode cX11_highOf 14 = .ok (.lshr, 1) := by decide +kernel
theorem dX11_highOf_15 : decode cX11_highOf 15 = .ok (.lstore 8, 2) := by decide +kernel
theorem dX11_highOf_17 : decode cX11_highOf 17 = .ok (.lload_n 2, 1) := by decide +kernel
theorem dX11_highOf_18 : decode cX11_highOf 18 = .ok (.lload 4, 2) := by decide +kernel
theorem dX11_highOf_20 : decode cX11_highOf 20 = .ok (.land, 1) := by decide +kernel
theorem dX11_highOf_21 : decode cX11_highOf 21 = .ok (.lstore 10, 2) := by decide +kernel
theorem dX11_highOf_23 : decode cX11_highOf 23 = .ok (.lload_n 2, 1) := by decide +kernel
theorem dX11_highOf_24 : decode cX11_highOf 24 = .ok (.bipush 32, 2) := by decide +kernel
theorem dX11_highOf_26 : decode cX11_highOf 26 = .ok (.lshr, 1) := by decide +kernel
theorem dX11_highOf_27 : decode cX11_highOf 27 = .ok (.lstore 12, 2) := by decide +kernel
theorem dX11_highOf_29 : decode cX11_highOf 29 = .ok (.lload 8, 2) := by decide +kernel
theorem dX11_highOf_31 : decode cX11_highOf 31 = .ok (.lload 10, 2) := by decide +kernel
theorem dX11_highOf_33 : decode cX11_highOf 33 = .ok (.lmul, 1) := by decide +kernel
theorem dX11_highOf_34 : decode cX11_highOf 34 = .ok (.lload 6, 2) := by decide +kernel
theorem dX11_highOf_36 : decode cX11_highOf 36 = .ok (.lload 10, 2) := by decide +kernel
theorem dX11_highOf_38 : decode cX11_highOf 38 = .ok (.lmul, 1) := by decide +kernel
theorem dX11_highOf_39 : decode cX11_highOf 39 = .ok (.bipush 32, 2) := by decide +kernel
theorem dX11_highOf_41 : decode cX11_highOf 41 = .ok (.lushr, 1) := by decide +kernel
theorem dX11_highOf_42 : decode cX11_highOf 42 = .ok (.ladd, 1) := by decide +kernel
theorem dX11_highOf_43 : decode cX11_highOf 43 = .ok (.lstore 14, 2) := by decide +kernel
theorem dX11_highOf_45 : decode cX11_highOf 45 = .ok (.lload 6, 2) := by decide +kernel
theorem dX11_highOf_47 : decode cX11_highOf 47 = .ok (.lload 12, 2) := by decide +kernel
theorem dX11_highOf_49 : decode cX11_highOf 49 = .ok (.lmul, 1) := by decide +kernel
theorem dX11_highOf_50 : decode cX11_highOf 50 = .ok (.lload 14, 2) := by decide +kernel
theorem dX11_highOf_52 : decode cX11_highOf 52 = .ok (.lload 4, 2) := by decide +kernel
theorem dX11_highOf_54 : decode cX11_highOf 54 = .ok (.land, 1) := by decide +kernel
theorem dX11_highOf_55 : decode cX11_highOf 55 = .ok (.ladd, 1) := by decide +kernel
theorem dX11_highOf_56 : decode cX11_highOf 56 = .ok (.lstore 16, 2) := by decide +kernel
theorem dX11_highOf_58 : decode cX11_highOf 58 = .ok (.lload 8, 2) := by decide +kernel
theorem dX11_highOf_60 : decode cX11_highOf 60 = .ok (.lload 12, 2) := by decide +kernel
theorem dX11_highOf_62 : decode cX11_highOf 62 = .ok (.lmul, 1) := by decide +kernel
theorem dX11_highOf_63 : decode cX11_highOf 63 = .ok (.lload 14, 2) := by decide +kernel
theorem dX11_highOf_65 : decode cX11_highOf 65 = .ok (.bipush 32, 2) := by decide +kernel
theorem dX11_highOf_67 : decode cX11_highOf 67 = .ok (.lshr, 1) := by decide +kernel
theorem dX11_highOf_68 : decode cX11_highOf 68 = .ok (.ladd, 1) := by decide +kernel
theorem dX11_highOf_69 : decode cX11_highOf 69 = .ok (.lload 16, 2) := by decide +kernel
theorem dX11_highOf_71 : decode cX11_highOf 71 = .ok (.bipush 32, 2) := by decide +kernel
theorem dX11_highOf_73 : decode cX11_highOf 73 = .ok (.lshr, 1) := by decide +kernel
theorem dX11_highOf_74 : decode cX11_highOf 74 = .ok (.ladd, 1) := by decide +kernel
theorem dX11_highOf_75 : decode cX11_highOf 75 = .ok (.lreturn, 1) := by decide +kernel
abbrev M_X11_highOf : MRec := (yX11_highOf, cX11_highOf, 18, (some Jvm.ClassFile.FieldType.long), [])
theorem m_X11_highOf : en_M M_X11_highOf 2 := ⟨t_1942, t_1, ⟨by decide +kernel, by decide +kernel⟩, by decide +kernel, by decide +kernel, by decide +kernel⟩
theorem dX11_signOfSum_0 : decode cX11_signOfSum 0 = .ok (.lload_n 0, 1) := by decide +kernel
theorem dX11_signOfSum_1 : decode cX11_signOfSum 1 = .ok (.lload_n 2, 1) := by decide +kernel
theorem dX11_signOfSum_2 : decode cX11_signOfSum 2 = .ok (.lmul, 1) := by decide +kernel
theorem dX11_signOfSum_3 : decode cX11_signOfSum 3 = .ok (.lstore 12, 2) := by decide +kernel
theorem dX11_signOfSum_5 : decode cX11_signOfSum 5 = .ok (.lload_n 0, 1) := by decide +kernel
theorem dX11_signOfSum_6 : decode cX11_signOfSum 6 = .ok (.lload_n 2, 1) := by decide +kernel
theorem dX11_signOfSum_7 : decode cX11_signOfSum 7 = .ok (.invokestatic 358, 3) := by decide +kernel
theorem dX11_signOfSum_10 : decode cX11_signOfSum 10 = .ok (.lstore 14, 2) := by decide +kernel
theorem dX11_signOfSum_12 : decode cX11_signOfSum 12 = .ok (.lload 4, 2) := by decide +kernel
theorem dX11_signOfSum_14 : decode cX11_signOfSum 14 = .ok (.lload 6, 2) := by decide +kernel
theorem dX11_signOfSum_16 : decode cX11_signOfSum 16 = .ok (.lmul, 1) := by decide +kernel
theorem dX11_signOfSum_17 : decode cX11_signOfSum 17 = .ok (.lstore 16, 2) := by decide +kernel
theorem dX11_signOfSum_19 : decode cX11_signOfSum 19 = .ok (.lload 12, 2) := by decide +kernel
theorem dX11_signOfSum_21 : decode cX11_signOfSum 21 = .ok (.lload 16, 2) := by decide +kernel
theorem dX11_signOfSum_23 : decode cX11_signOfSum 23 = .ok (.ladd, 1) := by decide +kernel
theorem dX11_signOfSum_24 : decode cX11_signOfSum 24 = .ok (.lstore 12, 2) := by decide +kernel
theorem dX11_signOfSum_26 : decode cX11_signOfSum 26 = .ok (.lload 14, 2) := by decide +kernel
theorem dX11_signOfSum_28 : decode cX11_signOfSum 28 = .ok (.lload 4, 2) := by decide +kernel
theorem dX11_signOfSum_30 : decode cX11_signOfSum 30 = .ok (.lload 6, 2) := by decide +kernel
theorem dX11_signOfSum_32 : decode cX11_signOfSum 32 = .ok (.invokestatic 358, 3) := by decide +kernel
theorem dX11_signOfSum_35 : decode cX11_signOfSum 35 = .ok (.lload 12, 2) := by decide +kernel
theorem dX11_signOfSum_37 : decode cX11_signOfSum 37 = .ok (.lload 16, 2) := by decide +kernel
theorem dX11_signOfSum_39 : decode cX11_signOfSum 39 = .ok (.invokestatic 361, 3) := by decide +kernel
theorem dX11_signOfSum_42 : decode cX11_signOfSum 42 = .ok (.i2l, 1) := by decide +kernel
theorem dX11_signOfSum_43 : decode cX11_signOfSum 43 = .ok (.ladd, 1) := by decide +kernel
theorem dX11_signOfSum_44 : decode cX11_signOfSum 44 = .ok (.ladd, 1) := by decide +kernel
theorem dX11_signOfSum_45 : decode cX11_signOfSum 45 = .ok (.lstore 14, 2) := by decide +kernel
theorem dX11_signOfSum_47 : decode cX11_signOfSum 47 = .ok (.lload 8, 2) := by decide +kernel
theorem dX11_signOfSum_49 : decode cX11_signOfSum 49 = .ok (.lload 10, 2) := by decide +kernel
theorem dX11_signOfSum_51 : decode cX11_signOfSum 51 = .ok (.lmul, 1) := by decide +kernel
theorem dX11_signOfSum_52 : decode cX11_signOfSum 52 = .ok (.lstore 16, 2) := by decide +kernel
theorem dX11_signOfSum_54 : decode cX11_signOfSum 54 = .ok (.lload 12, 2) := by decide +kernel
theorem dX11_signOfSum_56 : decode cX11_signOfSum 56 = .ok (.lload 16, 2) := by decide +kernel
theorem dX11_signOfSum_58 : decode cX11_signOfSum 58 = .ok (.ladd, 1) := by decide +kernel
theorem dX11_signOfSum_59 : decode cX11_signOfSum 59 = .ok (.lstore 12, 2) := by decide +kernel
theorem dX11_signOfSum_61 : decode cX11_signOfSum 61 = .ok (.lload 14, 2) := by decide +kernel
theorem dX11_signOfSum_63 : decode cX11_signOfSum 63 = .ok (.lload 8, 2) := by decide +kernel
theorem dX11_signOfSum_65 : decode cX11_signOfSum 65 = .ok (.lload 10, 2) := by decide +kernel
theorem dX11_signOfSum_67 : decode cX11_signOfSum 67 = .ok (.invokestatic 358, 3) := by decide +kernel
theorem dX11_signOfSum_70 : decode cX11_signOfSum 70 = .ok (.lload 12, 2) := by decide +kernel
theorem dX11_signOfSum_72 : decode cX11_signOfSum 72 = .ok (.lload 16, 2) := by decide +kernel
theorem dX11_signOfSum_74 : decode cX11_signOfSum 74 = .ok (.invokestatic 361, 3) := by decide +kernel
theorem dX11_signOfSum_77 : decode cX11_signOfSum 77 = .ok (.i2l, 1) := by decide +kernel
theorem dX11_signOfSum_78 : decode cX11_signOfSum 78 = .ok (.ladd, 1) := by decide +kernel
theorem dX11_signOfSum_79 : decode cX11_signOfSum 79 = .ok (.ladd, 1) := by decide +kernel
theorem dX11_signOfSum_80 : decode cX11_signOfSum 80 = .ok (.lstore 14, 2) := by decide +kernel
theorem dX11_signOfSum_82 : decode cX11_signOfSum 82 = .ok (.lload 14, 2) := by decide +kernel
theorem dX11_signOfSum_84 : decode cX11_signOfSum 84 = .ok (.lconst 0, 1) := by decide +kernel
theorem dX11_signOfSum_85 : decode cX11_signOfSum 85 = .ok (.lcmp, 1) := by decide +kernel
theorem dX11_signOfSum_86 : decode cX11_signOfSum 86 = .ok (.ifCond .eq 12, 3) := by decide +kernel
theorem dX11_signOfSum_89 : decode cX11_signOfSum 89 = .ok (.lload 14, 2) := by decide +kernel
theorem dX11_signOfSum_91 : decode cX11_signOfSum 91 = .ok (.lconst 0, 1) := by decide +kernel
theorem dX11_signOfSum_92 : decode cX11_signOfSum 92 = .ok (.invokestatic 346, 3) := by decide +kernel
theorem dX11_signOfSum_95 : decode cX11_signOfSum 95 = .ok (.goto 15, 3) := by decide +kernel
theorem dX11_signOfSum_98 : decode cX11_signOfSum 98 = .ok (.lload 12, 2) := by decide +kernel
theorem dX11_signOfSum_100 : decode cX11_signOfSum 100 = .ok (.lconst 0, 1) := by decide +kernel
theorem dX11_signOfSum_101 : decode cX11_signOfSum 101 = .ok (.lcmp, 1) := by decide +kernel
theorem dX11_signOfSum_102 : decode cX11_signOfSum 102 = .ok (.ifCond .eq 7, 3) := by decide +kernel
theorem dX11_signOfSum_105 : decode cX11_signOfSum 105 = .ok (.iconst 1, 1) := by decide +kernel
theorem dX11_signOfSum_106 : decode cX11_signOfSum 106 = .ok (.goto 4, 3) := by decide +kernel
theorem dX11_signOfSum_109 : decode cX11_signOfSum 109 = .ok (.iconst 0, 1) := by decide +kernel
theorem dX11_signOfSum_110 : decode cX11_signOfSum 110 = .ok (.ireturn, 1) := by decide +kernel
abbrev M_X11_signOfSum : MRec := (yX11_signOfSum, cX11_signOfSum, 18, (some Jvm.ClassFile.FieldType.int), [])
theorem m_X11_signOfSum : en_M M_X11_signOfSum 6 := ⟨t_1939, t_1, ⟨by decide +kernel, by decide +kernel⟩, by decide +kernel, by decide +kernel, by decide +kernel⟩
theorem dX2_circleSign_0 : decode cX2_circleSign 0 = .ok (.aload_n 0, 1) := by decide +kernel
theorem dX2_circleSign_1 : decode cX2_circleSign 1 = .ok (.getfield 17, 3) := by decide +kernel
theorem dX2_circleSign_4 : decode cX2_circleSign 4 = .ok (.iload_n 1, 1) := by decide +kernel
theorem dX2_circleSign_5 : decode cX2_circleSign 5 = .ok (.iaload, 1) := by decide +kernel
theorem dX2_circleSign_6 : decode cX2_circleSign 6 = .ok (.i2l, 1) := by decide +kernel
theorem dX2_circleSign_7 : decode cX2_circleSign 7 = .ok (.aload_n 0, 1) := by decide +kernel
theorem dX2_circleSign_8 : decode cX2_circleSign 8 = .ok (.getfield 17, 3) := by decide +kernel
theorem dX2_circleSign_11 : decode cX2_circleSign 11 = .ok (.iload 4, 2) := by decide +kernel
theorem dX2_circleSign_13 : decode cX2_circleSign 13 = .ok (.iaload, 1) := by decide +kernel
theorem dX2_circleSign_14 : decode cX2_circleSign 14 = .ok (.i2l, 1) := by decide +kernel
theorem dX2_circleSign_15 : decode cX2_circleSign 15 = .ok (.lsub, 1) := by decide +kernel
theorem dX2_circleSign_16 : decode cX2_circleSign 16 = .ok (.lstore 5, 2) := by decide +kernel
theorem dX2_circleSign_18 : decode cX2_circleSign 18 = .ok (.aload_n 0, 1) := by decide +kernel
theorem dX2_circleSign_19 : decode cX2_circleSign 19 = .ok (.getfield 21, 3) := by decide +kernel
theorem dX2_circleSign_22 : decode cX2_circleSign 22 = .ok (.iload_n 1, 1) := by decide +kernel
theorem dX2_circleSign_23 : decode cX2_circleSign 23 = .ok (.iaload, 1) := by decide +kernel
theorem dX2_circleSign_24 : decode cX2_circleSign 24 = .ok (.i2l, 1) := by decide +kernel
theorem dX2_circleSign_25 : decode cX2_circleSign 25 = .ok (.aload_n 0, 1) := by decide +kernel
theorem dX2_circleSign_26 : decode cX2_circleSign 26 = .ok (.getfield 21, 3) := by decide +kernel
theorem dX2_circleSign_29 : decode cX2_circleSign 29 = .ok (.iload 4, 2) := by decide +kernel
theorem dX2_circleSign_31 : decode cX2_circleSign 31 = .ok (.iaload, 1) := by decide +kernel
theorem dX2_circleSign_32 : decode cX2_circleSign 32 = .ok (.i2l, 1) := by decide +kernel
theorem dX2_circleSign_33 : decode cX2_circleSign 33 = .ok (.lsub, 1) := by decide +kernel
theorem dX2_circleSign_34 : decode cX2_circleSign 34 = .ok (.lstore 7, 2) := by decide +kernel
theorem dX2_circleSign_36 : decode cX2_circleSign 36 = .ok (.aload_n 0, 1) := by decide +kernel
theorem dX2_circleSign_37 : decode cX2_circleSign 37 = .ok (.getfield 17, 3) := by decide +kernel
theorem dX2_circleSign_40 : decode cX2_circleSign 40 = .ok (.iload_n 2, 1) := by decide +kernel
theorem dX2_circleSign_41 : decode cX2_circleSign 41 = .ok (.iaload, 1) := by decide +kernel
theorem dX2_circleSign_42 : decode cX2_circleSign 42 = .ok (.i2l, 1) := by decide +kernel
theorem dX2_circleSign_43 : decode cX2_circleSign 43 = .ok (.aload_n 0, 1) := by decide +kernel
theorem dX2_circleSign_44 : decode cX2_circleSign 44 = .ok (.getfield 17, 3) := by decide +kernel
theorem dX2_circleSign_47 : decode cX2_circleSign 47 = .ok (.iload 4, 2) := by decide +kernel
theorem dX2_circleSign_49 : decode cX2_circleSign 49 = .ok (.iaload, 1) := by decide +kernel
theorem dX2_circleSign_50 : decode cX2_circleSign 50 = .ok (.i2l, 1) := by decide +kernel
theorem dX2_circleSign_51 : decode cX2_circleSign 51 = .ok (.lsub, 1) := by decide +kernel
theorem dX2_circleSign_52 : decode cX2_circleSign 52 = .ok (.lstore 9, 2) := by decide +kernel
theorem dX2_circleSign_54 : decode cX2_circleSign 54 = .ok (.aload_n 0, 1) := by decide +kernel
theorem dX2_circleSign_55 : decode cX2_circleSign 55 = .ok (.getfield 21, 3) := by decide +kernel
theorem dX2_circleSign_58 : decode cX2_circleSign 58 = .ok (.iload_n 2, 1) := by decide +kernel
theorem dX2_circleSign_59 : decode cX2_circleSign 59 = .ok (.iaload, 1) := by decide +kernel
theorem dX2_circleSign_60 : decode cX2_circleSign 60 = .ok (.i2l, 1) := by decide +kernel
theorem dX2_circleSign_61 : decode cX2_circleSign 61 = .ok (.aload_n 0, 1) := by decide +kernel
theorem dX2_circleSign_62 : decode cX2_circleSign 62 = .ok (.getfield 21, 3) := by decide +kernel
theorem dX2_circleSign_65 : decode cX2_circleSign 65 = .ok (.iload 4, 2) := by decide +kernel
theorem dX2_circleSign_67 : decode cX2_circleSign 67 = .ok (.iaload, 1) := by decide +kernel
theorem dX2_circleSign_68 : decode cX2_circleSign 68 = .ok (.i2l, 1) := by decide +kernel
theorem dX2_circleSign_69 : decode cX2_circleSign 69 = .ok (.lsub, 1) := by decide +kernel
theorem dX2_circleSign_70 : decode cX2_circleSign 70 = .ok (.lstore 11, 2) := by decide +kernel
theorem dX2_circleSign_72 : decode cX2_circleSign 72 = .ok (.aload_n 0, 1) := by decide +kernel
theorem dX2_circleSign_73 : decode cX2_circleSign 73 = .ok (.getfield 17, 3) := by decide +kernel
theorem dX2_circleSign_76 : decode cX2_circleSign 76 = .ok (.iload_n 3, 1) := by decide +kernel
theorem dX2_circleSign_77 : decode cX2_circleSign 77 = .ok (.iaload, 1) := by decide +kernel
theorem dX2_circleSign_78 : decode cX2_circleSign 78 = .ok (.i2l, 1) := by decide +kernel
theorem dX2_circleSign_79 : decode cX2_circleSign 79 = .ok (.aload_n 0, 1) := by decide +kernel
theorem dX2_circleSign_80 : decode cX2_circleSign 80 = .ok (.getfield 17, 3) := by decide +kernel
theorem dX2_circleSign_83 : decode cX2_circleSign 83 = .ok (.iload 4, 2) := by decide +kernel
theorem dX2_circleSign_85 : decode cX2_circleSign 85 = .ok (.iaload, 1) := by decide +kernel
theorem dX2_circleSign_86 : decode cX2_circleSign 86 = .ok (.i2l, 1) := by decide +kernel
theorem dX2_circleSign_87 : decode cX2_circleSign 87 = .ok (.lsub, 1) := by decide +kernel
theorem dX2_circleSign_88 : decode cX2_circleSign 88 = .ok (.lstore 13, 2) := by decide +kernel
theorem dX2_circleSign_90 : decode cX2_circleSign 90 = .ok (.aload_n 0, 1) := by decide +kernel
theorem dX2_circleSign_91 : decode cX2_circleSign 91 = .ok (.getfield 21, 3) := by decide +kernel
theorem dX2_circleSign_94 : decode cX2_circleSign 94 = .ok (.iload_n 3, 1) := by decide +kernel
theorem dX2_circleSign_95 : decode cX2_circleSign 95 = .ok (.iaload, 1) := by decide +kernel
theorem dX2_circleSign_96 : decode cX2_circleSign 96 = .ok (.i2l, 1) := by decide +kernel
theorem dX2_circleSign_97 : decode cX2_circleSign 97 = .ok (.aload_n 0, 1) := by decide +kernel
theorem dX2_circleSign_98 : decode cX2_circleSign 98 = .ok (.getfield 21, 3) := by decide +kernel
theorem dX2_circleSign_101 : decode cX2_circleSign 101 = .ok (.iload 4, 2) := by decide +kernel
theorem dX2_circleSign_103 : decode cX2_circleSign 103 = .ok (.iaload, 1) := by decide +kernel
theorem dX2_circleSign_104 : decode cX2_circleSign 104 = .ok (.i2l, 1) := by decide +kernel
theorem dX2_circleSign_105 : decode cX2_circleSign 105 = .ok (.lsub, 1) := by decide +kernel
theorem dX2_circleSign_106 : decode cX2_circleSign 106 = .ok (.lstore 15, 2) := by decide +kernel
theorem dX2_circleSign_108 : decode cX2_circleSign 108 = .ok (.lload 5, 2) := by decide +kernel
theorem dX2_circleSign_110 : decode cX2_circleSign 110 = .ok (.lload 5, 2) := by decide +kernel
theorem dX2_circleSign_112 : decode cX2_circleSign 112 = .ok (.lmul, 1) := by decide +kernel
theorem dX2_circleSign_113 : decode cX2_circleSign 113 = .ok (.lload 7, 2) := by decide +kernel
theorem dX2_circleSign_115 : decode cX2_circleSign 115 = .ok (.lload 7, 2) := by decide +kernel
theorem dX2_circleSign_117 : decode cX2_circleSign 117 = .ok (.lmul, 1) := by decide +kernel
theorem dX2_circleSign_118 : decode cX2_circleSign 118 = .ok (.ladd, 1) := by decide +kernel
theorem dX2_circleSign_119 : decode cX2_circleSign 119 = .ok (.lload 9, 2) := by decide +kernel
theorem dX2_circleSign_121 : decode cX2_circleSign 121 = .ok (.lload 15, 2) := by decide +kernel
theorem dX2_circleSign_123 : decode cX2_circleSign 123 = .ok (.lmul, 1) := by decide +kernel
theorem dX2_circleSign_124 : decode cX2_circleSign 124 = .ok (.lload 11, 2) := by decide +kernel
theorem dX2_circleSign_126 : decode cX2_circleSign 126 = .ok (.lload 13, 2) := by decide +kernel
theorem dX2_circleSign_128 : decode cX2_circleSign 128 = .ok (.lmul, 1) := by decide +kernel
theorem dX2_circleSign_129 : decode cX2_circleSign 129 = .ok (.lsub, 1) := by decide +kernel
theorem dX2_circleSign_130 : decode cX2_circleSign 130 = .ok (.lload 9, 2) := by decide +kernel
theorem dX2_circleSign_132 : decode cX2_circleSign 132 = .ok (.lload 9, 2) := by decide +kernel
theorem dX2_circleSign_134 : decode cX2_circleSign 134 = .ok (.lmul, 1) := by decide +kernel
theorem dX2_circleSign_135 : decode cX2_circleSign 135 = .ok (.lload 11, 2) := by decide +kernel
theorem dX2_circleSign_137 : decode cX2_circleSign 137 = .ok (.lload 11, 2) := by decide +kernel
theorem dX2_circleSign_139 : decode cX2_circleSign 139 = .ok (.lmul, 1) := by decide +kernel
theorem dX2_circleSign_140 : decode cX2_circleSign 140 = .ok (.ladd, 1) := by decide +kernel
theorem dX2_circleSign_141 : decode cX2_circleSign 141 = .ok (.lload 13, 2) := by decide +kernel
theorem dX2_circleSign_143 : decode cX2_circleSign 143 = .ok (.lload 7, 2) := by decide +kernel
theorem dX2_circleSign_145 : decode cX2_circleSign 145 = .ok (.lmul, 1) := by decide +kernel
theorem dX2_circleSign_146 : decode cX2_circleSign 146 = .ok (.lload 15, 2) := by decide +kernel
theorem dX2_circleSign_148 : decode cX2_circleSign 148 = .ok (.lload 5, 2) := by decide +kernel
theorem dX2_circleSign_150 : decode cX2_circleSign 150 = .ok (.lmul, 1) := by decide +kernel
theorem dX2_circleSign_151 : decode cX2_circleSign 151 = .ok (.lsub, 1) := by decide +kernel
theorem dX2_circleSign_152 : decode cX2_circleSign 152 = .ok (.lload 13, 2) := by decide +kernel
theorem dX2_circleSign_154 : decode cX2_circleSign 154 = .ok (.lload 13, 2) := by decide +kernel
theorem dX2_circleSign_156 : decode cX2_circleSign 156 = .ok (.lmul, 1) := by decide +kernel
theorem dX2_circleSign_157 : decode cX2_circleSign 157 = .ok (.lload 15, 2) := by decide +kernel
theorem dX2_circleSign_159 : decode cX2_circleSign 159 = .ok (.lload 15, 2) := by decide +kernel
theorem dX2_circleSign_161 : decode cX2_circleSign 161 = .ok (.lmul, 1) := by decide +kernel
theorem dX2_circleSign_162 : decode cX2_circleSign 162 = .ok (.ladd, 1) := by decide +kernel
theorem dX2_circleSign_163 : decode cX2_circleSign 163 = .ok (.lload 5, 2) := by decide +kernel
theorem dX2_circleSign_165 : decode cX2_circleSign 165 = .ok (.lload 11, 2) := by decide +kernel
theorem dX2_circleSign_167 : decode cX2_circleSign 167 = .ok (.lmul, 1) := by decide +kernel
theorem dX2_circleSign_168 : decode cX2_circleSign 168 = .ok (.lload 7, 2) := by decide +kernel
theorem dX2_circleSign_170 : decode cX2_circleSign 170 = .ok (.lload 9, 2) := by decide +kernel
theorem dX2_circleSign_172 : decode cX2_circleSign 172 = .ok (.lmul, 1) := by decide +kernel
theorem dX2_circleSign_173 : decode cX2_circleSign 173 = .ok (.lsub, 1) := by decide +kernel
theorem dX2_circleSign_174 : decode cX2_circleSign 174 = .ok (.invokestatic 170, 3) := by decide +kernel
theorem dX2_circleSign_177 : decode cX2_circleSign 177 = .ok (.ireturn, 1) := by decide +kernel
abbrev M_X2_circleSign : MRec := (yX2_circleSign, cX2_circleSign, 17, (some Jvm.ClassFile.FieldType.int), [])
theorem m_X2_circleSign : en_M M_X2_circleSign 4 := ⟨t_2160, t_12, ⟨by decide +kernel, by decide +kernel⟩, by decide +kernel, by decide +kernel, by decide +kernel⟩
theorem dX2_insertInRound_0 : decode cX2_insertInRound 0 = .ok (.aload_n 0, 1) := by decide +kernel
theorem dX2_insertInRound_1 : decode cX2_insertInRound 1 = .ok (.getfield 159, 3) := by decide +kernel
theorem dX2_insertInRound_4 : decode cX2_insertInRound 4 = .ok (.istore_n 2, 1) := by decide +kernel
theorem dX2_insertInRound_5 : decode cX2_insertInRound 5 = .ok (.iload_n 2, 1) := by decide +kernel
theorem dX2_insertInRound_6 : decode cX2_insertInRound 6 = .ok (.iconst 2, 1) := by decide +kernel
theorem dX2_insertInRound_7 : decode cX2_insertInRound 7 = .ok (.if_icmp .le 45, 3) := by decide +kernel
theorem dX2_insertInRound_10 : decode cX2_insertInRound 10 = .ok (.aload_n 0, 1) := by decide +kernel
theorem dX2_insertInRound_11 : decode cX2_insertInRound 11 = .ok (.aload_n 0, 1) := by decide +kernel
theorem dX2_insertInRound_12 : decode cX2_insertInRound 12 = .ok (.getfield 42, 3) := by decide +kernel
theorem dX2_insertInRound_15 : decode cX2_insertInRound 15 = .ok (.iconst 0, 1) := by decide +kernel
theorem dX2_insertInRound_16 : decode cX2_insertInRound 16 = .ok (.iaload, 1) := by decide +kernel
theorem dX2_insertInRound_17 : decode cX2_insertInRound 17 = .ok (.aload_n 0, 1) := by decide +kernel
theorem dX2_insertInRound_18 : decode cX2_insertInRound 18 = .ok (.getfield 42, 3) := by decide +kernel
theorem dX2_insertInRound_21 : decode cX2_insertInRound 21 = .ok (.iload_n 2, 1) := by decide +kernel
theorem dX2_insertInRound_22 : decode cX2_insertInRound 22 = .ok (.iconst 1, 1) := by decide +kernel
theorem dX2_insertInRound_23 : decode cX2_insertInRound 23 = .ok (.isub, 1) := by decide +kernel
theorem dX2_insertInRound_24 : decode cX2_insertInRound 24 = .ok (.iaload, 1) := by decide +kernel
theorem dX2_insertInRound_25 : decode cX2_insertInRound 25 = .ok (.iload_n 1, 1) := by decide +kernel
theorem dX2_insertInRound_26 : decode cX2_insertInRound 26 = .ok (.invokevirtual 108, 3) := by decide +kernel
theorem dX2_insertInRound_29 : decode cX2_insertInRound 29 = .ok (.ifCond .ge 23, 3) := by decide +kernel
theorem dX2_insertInRound_32 : decode cX2_insertInRound 32 = .ok (.aload_n 0, 1) := by decide +kernel
theorem dX2_insertInRound_33 : decode cX2_insertInRound 33 = .ok (.getfield 42, 3) := by decide +kernel
theorem dX2_insertInRound_36 : decode cX2_insertInRound 36 = .ok (.iload_n 2, 1) := by decide +kernel
theorem dX2_insertInRound_37 : decode cX2_insertInRound 37 = .ok (.aload_n 0, 1) := by decide +kernel
theorem dX2_insertInRound_38 : decode cX2_insertInRound 38 = .ok (.getfield 42, 3) := by decide +kernel
theorem dX2_insertInRound_41 : decode cX2_insertInRound 41 = .ok (.iload_n 2, 1) := by decide +kernel
theorem dX2_insertInRound_42 : decode cX2_insertInRound 42 = .ok (.iconst 1, 1) := by decide +kernel
theorem dX2_insertInRound_43 : decode cX2_insertInRound 43 = .ok (.isub, 1) := by decide +kernel
theorem dX2_insertInRound_44 : decode cX2_insertInRound 44 = .ok (.iaload, 1) := by decide +kernel
theorem dX2_insertInRound_45 : decode cX2_insertInRound 45 = .ok (.iastore, 1) := by decide +kernel
theorem dX2_insertInRound_46 : decode cX2_insertInRound 46 = .ok (.iinc 2 (-1), 3) := by decide +kernel
theorem dX2_insertInRound_49 : decode cX2_insertInRound 49 = .ok (.goto (-44), 3) := by decide +kernel
theorem dX2_insertInRound_52 : decode cX2_insertInRound 52 = .ok (.aload_n 0, 1) := by decide +kernel
theorem dX2_insertInRound_53 : decode cX2_insertInRound 53 = .ok (.getfield 42, 3) := by decide +kernel
theorem dX2_insertInRound_56 : decode cX2_insertInRound 56 = .ok (.iload_n 2, 1) := by decide +kernel
theorem dX2_insertInRound_57 : decode cX2_insertInRound 57 = .ok (.iload_n 1, 1) := by decide +kernel
theorem dX2_insertInRound_58 : decode cX2_insertInRound 58 = .ok (.iastore, 1) := by decide +kernel
theorem dX2_insertInRound_59 : decode cX2_insertInRound 59 = .ok (.aload_n 0, 1) := by decide +kernel
theorem dX2_insertInRound_60 : decode cX2_insertInRound 60 = .ok (.dup, 1) := by decide +kernel
theorem dX2_insertInRound_61 : decode cX2_insertInRound 61 = .ok (.getfield 159, 3) := by decide +kernel
theorem dX2_insertInRound_64 : decode cX2_insertInRound 64 = .ok (.iconst 1, 1) := by decide +kernel
theorem dX2_insertInRound_65 : decode cX2_insertInRound 65 = .ok (.iadd, 1) := by decide +kernel
theorem dX2_insertInRound_66 : decode cX2_insertInRound 66 = .ok (.putfield 159, 3) := by decide +kernel
theorem dX2_insertInRound_69 : decode cX2_insertInRound 69 = .ok (.return_, 1) := by decide +kernel
abbrev M_X2_insertInRound : MRec := (yX2_insertInRound, cX2_insertInRound, 3, none, [])
theorem m_X2_insertInRound : en_M M_X2_insertInRound 1 := ⟨t_2165, t_12, ⟨by decide +kernel, by decide +kernel⟩, by decide +kernel, by decide +kernel, by decide +kernel⟩
theorem dX2_findRound_0 : decode cX2_findRound 0 = .ok (.aload_n 0, 1) := by decide +kernel
theorem dX2_findRound_1 : decode cX2_findRound 1 = .ok (.getfield 42, 3) := by decide +kernel
theorem dX2_findRound_4 : decode cX2_findRound 4 = .ok (.iconst 0, 1) := by decide +kernel
theorem dX2_findRound_5 : decode cX2_findRound 5 = .ok (.iload_n 1, 1) := by decide +kernel
theorem dX2_findRound_6 : decode cX2_findRound 6 = .ok (.iastore, 1) := by decide +kernel
theorem dX2_findRound_7 : decode cX2_findRound 7 = .ok (.aload_n 0, 1) := by decide +kernel
theorem dX2_findRound_8 : decode cX2_findRound 8 = .ok (.getfield 42, 3) := by decide +kernel
theorem dX2_findRound_11 : decode cX2_findRound 11 = .ok (.iconst 1, 1) := by decide +kernel
theorem dX2_findRound_12 : decode cX2_findRound 12 = .ok (.iload_n 2, 1) := by decide +kernel
theorem dX2_findRound_13 : decode cX2_findRound 13 = .ok (.iastore, 1) := by decide +kernel
theorem dX2_findRound_14 : decode cX2_findRound 14 = .ok (.aload_n 0, 1) := by decide +kernel
theorem dX2_findRound_15 : decode cX2_findRound 15 = .ok (.iconst 2, 1) := by decide +kernel
theorem dX2_findRound_16 : decode cX2_findRound 16 = .ok (.putfield 159, 3) := by decide +kernel
theorem dX2_findRound_19 : decode cX2_findRound 19 = .ok (.iconst 0, 1) := by decide +kernel
theorem dX2_findRound_20 : decode cX2_findRound 20 = .ok (.istore_n 3, 1) := by decide +kernel
theorem dX2_findRound_21 : decode cX2_findRound 21 = .ok (.iload_n 3, 1) := by decide +kernel
theorem dX2_findRound_22 : decode cX2_findRound 22 = .ok (.aload_n 0, 1) := by decide +kernel
theorem dX2_findRound_23 : decode cX2_findRound 23 = .ok (.getfield 77, 3) := by decide +kernel
theorem dX2_findRound_26 : decode cX2_findRound 26 = .ok (.if_icmp .ge 79, 3) := by decide +kernel
theorem dX2_findRound_29 : decode cX2_findRound 29 = .ok (.aload_n 0, 1) := by decide +kernel
theorem dX2_findRound_30 : decode cX2_findRound 30 = .ok (.iload_n 1, 1) := by decide +kernel
theorem dX2_findRound_31 : decode cX2_findRound 31 = .ok (.iload_n 2, 1) := by decide +kernel
theorem dX2_findRound_32 : decode cX2_findRound 32 = .ok (.iload_n 3, 1) := by decide +kernel
theorem dX2_findRound_33 : decode cX2_findRound 33 = .ok (.invokevirtual 108, 3) := by decide +kernel
theorem dX2_findRound_36 : decode cX2_findRound 36 = .ok (.ifCond .gt 6, 3) := by decide +kernel
theorem dX2_findRound_39 : decode cX2_findRound 39 = .ok (.goto 60, 3) := by decide +kernel
theorem dX2_findRound_42 : decode cX2_findRound 42 = .ok (.aload_n 0, 1) := by decide +kernel
theorem dX2_findRound_43 : decode cX2_findRound 43 = .ok (.getfield 159, 3) := by decide +kernel
theorem dX2_findRound_46 : decode cX2_findRound 46 = .ok (.iconst 2, 1) := by decide +kernel
theorem dX2_findRound_47 : decode cX2_findRound 47 = .ok (.if_icmp .ne 7, 3) := by decide +kernel
theorem dX2_findRound_50 : decode cX2_findRound 50 = .ok (.iconst 1, 1) := by decide +kernel
theorem dX2_findRound_51 : decode cX2_findRound 51 = .ok (.goto 16, 3) := by decide +kernel
theorem dX2_findRound_54 : decode cX2_findRound 54 = .ok (.aload_n 0, 1) := by decide +kernel
theorem dX2_findRound_55 : decode cX2_findRound 55 = .ok (.iload_n 1, 1) := by decide +kernel
theorem dX2_findRound_56 : decode cX2_findRound 56 = .ok (.iload_n 2, 1) := by decide +kernel
theorem dX2_findRound_57 : decode cX2_findRound 57 = .ok (.aload_n 0, 1) := by decide +kernel
theorem dX2_findRound_58 : decode cX2_findRound 58 = .ok (.getfield 42, 3) := by decide +kernel
theorem dX2_findRound_61 : decode cX2_findRound 61 = .ok (.iconst 2, 1) := by decide +kernel
theorem dX2_findRound_62 : decode cX2_findRound 62 = .ok (.iaload, 1) := by decide +kernel
theorem dX2_findRound_63 : decode cX2_findRound 63 = .ok (.iload_n 3, 1) := by decide +kernel
theorem dX2_findRound_64 : decode cX2_findRound 64 = .ok (.invokevirtual 162, 3) := by decide +kernel
theorem dX2_findRound_67 : decode cX2_findRound 67 = .ok (.istore 4, 2) := by decide +kernel
theorem dX2_findRound_69 : decode cX2_findRound 69 = .ok (.iload 4, 2) := by decide +kernel
theorem dX2_findRound_71 : decode cX2_findRound 71 = .ok (.ifCond .le 8, 3) := by decide +kernel
theorem dX2_findRound_74 : decode cX2_findRound 74 = .ok (.aload_n 0, 1) := by decide +kernel
theorem dX2_findRound_75 : decode cX2_findRound 75 = .ok (.iconst 2, 1) := by decide +kernel
theorem dX2_findRound_76 : decode cX2_findRound 76 = .ok (.putfield 159, 3) := by decide +kernel
theorem dX2_findRound_79 : decode cX2_findRound 79 = .ok (.iload 4, 2) := by decide +kernel
theorem dX2_findRound_81 : decode cX2_findRound 81 = .ok (.ifCond .lt 18, 3) := by decide +kernel
theorem dX2_findRound_84 : decode cX2_findRound 84 = .ok (.aload_n 0, 1) := by decide +kernel
theorem dX2_findRound_85 : decode cX2_findRound 85 = .ok (.getfield 159, 3) := by decide +kernel
theorem dX2_findRound_88 : decode cX2_findRound 88 = .ok (.sipush 514, 3) := by decide +kernel
theorem dX2_findRound_91 : decode cX2_findRound 91 = .ok (.if_icmp .ge 8, 3) := by decide +kernel
theorem dX2_findRound_94 : decode cX2_findRound 94 = .ok (.aload_n 0, 1) := by decide +kernel
theorem dX2_findRound_95 : decode cX2_findRound 95 = .ok (.iload_n 3, 1) := by decide +kernel
theorem dX2_findRound_96 : decode cX2_findRound 96 = .ok (.invokevirtual 166, 3) := by decide +kernel
theorem dX2_findRound_99 : decode cX2_findRound 99 = .ok (.iinc 3 1, 3) := by decide +kernel
theorem dX2_findRound_102 : decode cX2_findRound 102 = .ok (.goto (-81), 3) := by decide +kernel
theorem dX2_findRound_105 : decode cX2_findRound 105 = .ok (.aload_n 0, 1) := by decide +kernel
theorem dX2_findRound_106 : decode cX2_findRound 106 = .ok (.getfield 159, 3) := by decide +kernel
theorem dX2_findRound_109 : decode cX2_findRound 109 = .ok (.iconst 2, 1) := by decide +kernel
theorem dX2_findRound_110 : decode cX2_findRound 110 = .ok (.if_icmp .le 7, 3) := by decide +kernel
theorem dX2_findRound_113 : decode cX2_findRound 113 = .ok (.iconst 1, 1) := by decide +kernel
theorem dX2_findRound_114 : decode cX2_findRound 114 = .ok (.goto 4, 3) := by decide +kernel
theorem dX2_findRound_117 : decode cX2_findRound 117 = .ok (.iconst 0, 1) := by decide +kernel
theorem dX2_findRound_118 : decode cX2_findRound 118 = .ok (.ireturn, 1) := by decide +kernel
abbrev M_X2_findRound : MRec := (yX2_findRound, cX2_findRound, 5, (some Jvm.ClassFile.FieldType.boolean), [])
theorem m_X2_findRound : en_M M_X2_findRound 2 := ⟨t_2156, t_12, ⟨by decide +kernel, by decide +kernel⟩, by decide +kernel, by decide +kernel, by decide +kernel⟩
theorem dX2_firstNeighbour_0 : decode cX2_firstNeighbour 0 = .ok (.iconst 1, 1) := by decide +kernel
theorem dX2_firstNeighbour_1 : decode cX2_firstNeighbour 1 = .ok (.istore_n 1, 1) := by decide +kernel
theorem dX2_firstNeighbour_2 : decode cX2_firstNeighbour 2 = .ok (.iconst 2, 1) := by decide +kernel
theorem dX2_firstNeighbour_3 : decode cX2_firstNeighbour 3 = .ok (.istore_n 2, 1) := by decide +kernel
theorem dX2_firstNeighbour_4 : decode cX2_firstNeighbour 4 = .ok (.iload_n 2, 1) := by decide +kernel
theorem dX2_firstNeighbour_5 : decode cX2_firstNeighbour 5 = .ok (.aload_n 0, 1) := by decide +kernel
theorem dX2_firstNeighbour_6 : decode cX2_firstNeighbour 6 = .ok (.getfield 77, 3) := by decide +kernel
theorem dX2_firstNeighbour_9 : decode cX2_firstNeighbour 9 = .ok (.if_icmp .ge 21, 3) := by decide +kernel
theorem dX2_firstNeighbour_12 : decode cX2_firstNeighbour 12 = .ok (.aload_n 0, 1) := by decide +kernel
theorem dX2_firstNeighbour_13 : decode cX2_firstNeighbour 13 = .ok (.iconst 0, 1) := by decide +kernel
theorem dX2_firstNeighbour_14 : decode cX2_firstNeighbour 14 = .ok (.iload_n 1, 1) := by decide +kernel
theorem dX2_firstNeighbour_15 : decode cX2_firstNeighbour 15 = .ok (.iload_n 2, 1) := by decide +kernel
theorem dX2_firstNeighbour_16 : decode cX2_firstNeighbour 16 = .ok (.invokevirtual 108, 3) := by decide +kernel
theorem dX2_firstNeighbour_19 : decode cX2_firstNeighbour 19 = .ok (.ifCond .ge 5, 3) := by decide +kernel
theorem dX2_firstNeighbour_22 : decode cX2_firstNeighbour 22 = .ok (.iload_n 2, 1) := by decide +kernel
theorem dX2_firstNeighbour_23 : decode cX2_firstNeighbour 23 = .ok (.istore_n 1, 1) := by decide +kernel
theorem dX2_firstNeighbour_24 : decode cX2_firstNeighbour 24 = .ok (.iinc 2 1, 3) := by decide +kernel
theorem dX2_firstNeighbour_27 : decode cX2_firstNeighbour 27 = .ok (.goto (-23), 3) := by decide +kernel
theorem dX2_firstNeighbour_30 : decode cX2_firstNeighbour 30 = .ok (.iload_n 1, 1) := by decide +kernel
theorem dX2_firstNeighbour_31 : decode cX2_firstNeighbour 31 = .ok (.ireturn, 1) := by decide +kernel
abbrev M_X2_firstNeighbour : MRec := (yX2_firstNeighbour, cX2_firstNeighbour, 3, (some Jvm.ClassFile.FieldType.int), [])
theorem m_X2_firstNeighbour : en_M M_X2_firstNeighbour 0 := ⟨t_2143, t_12, ⟨by decide +kernel, by decide +kernel⟩, by decide +kernel, by decide +kernel, by decide +kernel⟩
theorem dX2_isTold_0 : decode cX2_isTold 0 = .ok (.iload_n 1, 1) := by decide +kernel
theorem dX2_isTold_1 : decode cX2_isTold 1 = .ok (.aload_n 0, 1) := by decide +kernel
theorem dX2_isTold_2 : decode cX2_isTold 2 = .ok (.getfield 77, 3) := by decide +kernel
theorem dX2_isTold_5 : decode cX2_isTold 5 = .ok (.imul, 1) := by decide +kernel
theorem dX2_isTold_6 : decode cX2_isTold 6 = .ok (.iload_n 2, 1) := by decide +kernel
theorem dX2_isTold_7 : decode cX2_isTold 7 = .ok (.iadd, 1) := by decide +kernel
theorem dX2_isTold_8 : decode cX2_isTold 8 = .ok (.istore_n 3, 1) := by decide +kernel
theorem dX2_isTold_9 : decode cX2_isTold 9 = .ok (.aload_n 0, 1) := by decide +kernel
theorem dX2_isTold_10 : decode cX2_isTold 10 = .ok (.getfield 33, 3) := by decide +kernel
theorem dX2_isTold_13 : decode cX2_isTold 13 = .ok (.iload_n 3, 1) := by decide +kernel
theorem dX2_isTold_14 : decode cX2_isTold 14 = .ok (.bipush 6, 2) := by decide +kernel
theorem dX2_isTold_16 : decode cX2_isTold 16 = .ok (.ishr, 1) := by decide +kernel
theorem dX2_isTold_17 : decode cX2_isTold 17 = .ok (.laload, 1) := by decide +kernel
theorem dX2_isTold_18 : decode cX2_isTold 18 = .ok (.iload_n 3, 1) := by decide +kernel
theorem dX2_isTold_19 : decode cX2_isTold 19 = .ok (.bipush 63, 2) := by decide +kernel
theorem dX2_isTold_21 : decode cX2_isTold 21 = .ok (.iand, 1) := by decide +kernel
theorem dX2_isTold_22 : decode cX2_isTold 22 = .ok (.lshr, 1) := by decide +kernel
theorem dX2_isTold_23 : decode cX2_isTold 23 = .ok (.lconst 1, 1) := by decide +kernel
theorem dX2_isTold_24 : decode cX2_isTold 24 = .ok (.land, 1) := by decide +kernel
theorem dX2_isTold_25 : decode cX2_isTold 25 = .ok (.lconst 0, 1) := by decide +kernel
theorem dX2_isTold_26 : decode cX2_isTold 26 = .ok (.lcmp, 1) := by decide +kernel
theorem dX2_isTold_27 : decode cX2_isTold 27 = .ok (.ifCond .eq 7, 3) := by decide +kernel
theorem dX2_isTold_30 : decode cX2_isTold 30 = .ok (.iconst 1, 1) := by decide +kernel
theorem dX2_isTold_31 : decode cX2_isTold 31 = .ok (.goto 4, 3) := by decide +kernel
theorem dX2_isTold_34 : decode cX2_isTold 34 = .ok (.iconst 0, 1) := by decide +kernel
theorem dX2_isTold_35 : decode cX2_isTold 35 = .ok (.ireturn, 1) := by decide +kernel
abbrev M_X2_isTold : MRec := (yX2_isTold, cX2_isTold, 4, (some Jvm.ClassFile.FieldType.boolean), [])
theorem m_X2_isTold : en_M M_X2_isTold 2 := ⟨t_2151, t_12, ⟨by decide +kernel, by decide +kernel⟩, by decide +kernel, by decide +kernel, by decide +kernel⟩
theorem dX2_pushWay_0 : decode cX2_pushWay 0 = .ok (.aload_n 0, 1) := by decide +kernel
theorem dX2_pushWay_1 : decode cX2_pushWay 1 = .ok (.getfield 139, 3) := by decide +kernel
theorem dX2_pushWay_4 : decode cX2_pushWay 4 = .ok (.aload_n 0, 1) := by decide +kernel
theorem dX2_pushWay_5 : decode cX2_pushWay 5 = .ok (.getfield 36, 3) := by decide +kernel
theorem dX2_pushWay_8 : decode cX2_pushWay 8 = .ok (.arraylength, 1) := by decide +kernel
theorem dX2_pushWay_9 : decode cX2_pushWay 9 = .ok (.if_icmp .ge 42, 3) := by decide +kernel
theorem dX2_pushWay_12 : decode cX2_pushWay 12 = .ok (.aload_n 0, 1) := by decide +kernel
theorem dX2_pushWay_13 : decode cX2_pushWay 13 = .ok (.iload_n 1, 1) := by decide +kernel
theorem dX2_pushWay_14 : decode cX2_pushWay 14 = .ok (.iload_n 2, 1) := by decide +kernel
theorem dX2_pushWay_15 : decode cX2_pushWay 15 = .ok (.invokevirtual 150, 3) := by decide +kernel
theorem dX2_pushWay_18 : decode cX2_pushWay 18 = .ok (.ifCond .ne 33, 3) := by decide +kernel
theorem dX2_pushWay_21 : decode cX2_pushWay 21 = .ok (.aload_n 0, 1) := by decide +kernel
theorem dX2_pushWay_22 : decode cX2_pushWay 22 = .ok (.getfield 36, 3) := by decide +kernel
theorem dX2_pushWay_25 : decode cX2_pushWay 25 = .ok (.aload_n 0, 1) := by decide +kernel
theorem dX2_pushWay_26 : decode cX2_pushWay 26 = .ok (.getfield 139, 3) := by decide +kernel
theorem dX2_pushWay_29 : decode cX2_pushWay 29 = .ok (.iload_n 1, 1) := by decide +kernel
theorem dX2_pushWay_30 : decode cX2_pushWay 30 = .ok (.iastore, 1) := by decide +kernel
theorem dX2_pushWay_31 : decode cX2_pushWay 31 = .ok (.aload_n 0, 1) := by decide +kernel
theorem dX2_pushWay_32 : decode cX2_pushWay 32 = .ok (.getfield 39, 3) := by decide +kernel
theorem dX2_pushWay_35 : decode cX2_pushWay 35 = .ok (.aload_n 0, 1) := by decide +kernel
theorem dX2_pushWay_36 : decode cX2_pushWay 36 = .ok (.getfield 139, 3) := by decide +kernel
theorem dX2_pushWay_39 : decode cX2_pushWay 39 = .ok (.iload_n 2, 1) := by decide +kernel
theorem dX2_pushWay_40 : decode cX2_pushWay 40 = .ok (.iastore, 1) := by decide +kernel
theorem dX2_pushWay_41 : decode cX2_pushWay 41 = .ok (.aload_n 0, 1) := by decide +kernel
theorem dX2_pushWay_42 : decode cX2_pushWay 42 = .ok (.dup, 1) := by decide +kernel
theorem dX2_pushWay_43 : decode cX2_pushWay 43 = .ok (.getfield 139, 3) := by decide +kernel
theorem dX2_pushWay_46 : decode cX2_pushWay 46 = .ok (.iconst 1, 1) := by decide +kernel
theorem dX2_pushWay_47 : decode cX2_pushWay 47 = .ok (.iadd, 1) := by decide +kernel
theorem dX2_pushWay_48 : decode cX2_pushWay 48 = .ok (.putfield 139, 3) := by decide +kernel
theorem dX2_pushWay_51 : decode cX2_pushWay 51 = .ok (.return_, 1) := by decide +kernel
abbrev M_X2_pushWay : MRec := (yX2_pushWay, cX2_pushWay, 3, none, [])
theorem m_X2_pushWay : en_M M_X2_pushWay 2 := ⟨t_2147, t_12, ⟨by decide +kernel, by decide +kernel⟩, by decide +kernel, by decide +kernel, by decide +kernel⟩
