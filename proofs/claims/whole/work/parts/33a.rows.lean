section PRR
theorem dX0_has_0 : decode cX0_has 0 = .ok (.aload_n 0, 1) := by decide +kernel
theorem dX0_has_1 : decode cX0_has 1 = .ok (.getfield 42, 3) := by decide +kernel
theorem dX0_has_4 : decode cX0_has 4 = .ok (.aload_n 0, 1) := by decide +kernel
theorem dX0_has_5 : decode cX0_has 5 = .ok (.getfield 45, 3) := by decide +kernel
theorem dX0_has_8 : decode cX0_has 8 = .ok (.isub, 1) := by decide +kernel
theorem dX0_has_9 : decode cX0_has 9 = .ok (.iload_n 1, 1) := by decide +kernel
theorem dX0_has_10 : decode cX0_has 10 = .ok (.if_icmp .lt 7, 3) := by decide +kernel
theorem dX0_has_13 : decode cX0_has 13 = .ok (.iconst 1, 1) := by decide +kernel
theorem dX0_has_14 : decode cX0_has 14 = .ok (.goto 4, 3) := by decide +kernel
theorem dX0_has_17 : decode cX0_has 17 = .ok (.iconst 0, 1) := by decide +kernel
theorem dX0_has_18 : decode cX0_has 18 = .ok (.ireturn, 1) := by decide +kernel
theorem dX0_isNoNumber_0 : decode cX0_isNoNumber 0 = .ok (.lload_n 0, 1) := by decide +kernel
theorem dX0_isNoNumber_1 : decode cX0_isNoNumber 1 = .ok (.bipush 52, 2) := by decide +kernel
theorem dX0_isNoNumber_3 : decode cX0_isNoNumber 3 = .ok (.lushr, 1) := by decide +kernel
theorem dX0_isNoNumber_4 : decode cX0_isNoNumber 4 = .ok (.ldc2_w 116, 3) := by decide +kernel
theorem dX0_isNoNumber_7 : decode cX0_isNoNumber 7 = .ok (.land, 1) := by decide +kernel
theorem dX0_isNoNumber_8 : decode cX0_isNoNumber 8 = .ok (.ldc2_w 116, 3) := by decide +kernel
theorem dX0_isNoNumber_11 : decode cX0_isNoNumber 11 = .ok (.lcmp, 1) := by decide +kernel
theorem dX0_isNoNumber_12 : decode cX0_isNoNumber 12 = .ok (.ifCond .ne 17, 3) := by decide +kernel
theorem dX0_isNoNumber_15 : decode cX0_isNoNumber 15 = .ok (.lload_n 0, 1) := by decide +kernel
theorem dX0_isNoNumber_16 : decode cX0_isNoNumber 16 = .ok (.ldc2_w 118, 3) := by decide +kernel
theorem dX0_isNoNumber_19 : decode cX0_isNoNumber 19 = .ok (.land, 1) := by decide +kernel
theorem dX0_isNoNumber_20 : decode cX0_isNoNumber 20 = .ok (.lconst 0, 1) := by decide +kernel
theorem dX0_isNoNumber_21 : decode cX0_isNoNumber 21 = .ok (.lcmp, 1) := by decide +kernel
theorem dX0_isNoNumber_22 : decode cX0_isNoNumber 22 = .ok (.ifCond .eq 7, 3) := by decide +kernel
theorem dX0_isNoNumber_25 : decode cX0_isNoNumber 25 = .ok (.iconst 1, 1) := by decide +kernel
theorem dX0_isNoNumber_26 : decode cX0_isNoNumber 26 = .ok (.goto 4, 3) := by decide +kernel
theorem dX0_isNoNumber_29 : decode cX0_isNoNumber 29 = .ok (.iconst 0, 1) := by decide +kernel
theorem dX0_isNoNumber_30 : decode cX0_isNoNumber 30 = .ok (.ireturn, 1) := by decide +kernel
theorem dX2_triangleKeyFrom_0 : decode cX2_triangleKeyFrom 0 = .ok (.lload_n 0, 1) := by decide +kernel
theorem dX2_triangleKeyFrom_1 : decode cX2_triangleKeyFrom 1 = .ok (.bipush 10, 2) := by decide +kernel
theorem dX2_triangleKeyFrom_3 : decode cX2_triangleKeyFrom 3 = .ok (.lshl, 1) := by decide +kernel
theorem dX2_triangleKeyFrom_4 : decode cX2_triangleKeyFrom 4 = .ok (.lload_n 2, 1) := by decide +kernel
theorem dX2_triangleKeyFrom_5 : decode cX2_triangleKeyFrom 5 = .ok (.lor, 1) := by decide +kernel
theorem dX2_triangleKeyFrom_6 : decode cX2_triangleKeyFrom 6 = .ok (.bipush 10, 2) := by decide +kernel
theorem dX2_triangleKeyFrom_8 : decode cX2_triangleKeyFrom 8 = .ok (.lshl, 1) := by decide +kernel
theorem dX2_triangleKeyFrom_9 : decode cX2_triangleKeyFrom 9 = .ok (.lload 4, 2) := by decide +kernel
theorem dX2_triangleKeyFrom_11 : decode cX2_triangleKeyFrom 11 = .ok (.lor, 1) := by decide +kernel
theorem dX2_triangleKeyFrom_12 : decode cX2_triangleKeyFrom 12 = .ok (.lreturn, 1) := by decide +kernel
theorem dX6_isThere_0 : decode cX6_isThere 0 = .ok (.aload_n 0, 1) := by decide +kernel
theorem dX6_isThere_1 : decode cX6_isThere 1 = .ok (.getfield 21, 3) := by decide +kernel
theorem dX6_isThere_4 : decode cX6_isThere 4 = .ok (.ifCond .le 7, 3) := by decide +kernel
theorem dX6_isThere_7 : decode cX6_isThere 7 = .ok (.iconst 1, 1) := by decide +kernel
theorem dX6_isThere_8 : decode cX6_isThere 8 = .ok (.goto 4, 3) := by decide +kernel
theorem dX6_isThere_11 : decode cX6_isThere 11 = .ok (.iconst 0, 1) := by decide +kernel
theorem dX6_isThere_12 : decode cX6_isThere 12 = .ok (.ireturn, 1) := by decide +kernel
theorem dX6_hasRoomForPoint_0 : decode cX6_hasRoomForPoint 0 = .ok (.aload_n 0, 1) := by decide +kernel
theorem dX6_hasRoomForPoint_1 : decode cX6_hasRoomForPoint 1 = .ok (.getfield 25, 3) := by decide +kernel
theorem dX6_hasRoomForPoint_4 : decode cX6_hasRoomForPoint 4 = .ok (.sipush 2048, 3) := by decide +kernel
theorem dX6_hasRoomForPoint_7 : decode cX6_hasRoomForPoint 7 = .ok (.if_icmp .ge 7, 3) := by decide +kernel
theorem dX6_hasRoomForPoint_10 : decode cX6_hasRoomForPoint 10 = .ok (.iconst 1, 1) := by decide +kernel
theorem dX6_hasRoomForPoint_11 : decode cX6_hasRoomForPoint 11 = .ok (.goto 4, 3) := by decide +kernel
theorem dX6_hasRoomForPoint_14 : decode cX6_hasRoomForPoint 14 = .ok (.iconst 0, 1) := by decide +kernel
theorem dX6_hasRoomForPoint_15 : decode cX6_hasRoomForPoint 15 = .ok (.ireturn, 1) := by decide +kernel
theorem dX8_meetsPixel_0 : decode cX8_meetsPixel 0 = .ok (.lload_n 0, 1) := by decide +kernel
theorem dX8_meetsPixel_1 : decode cX8_meetsPixel 1 = .ok (.lconst 0, 1) := by decide +kernel
theorem dX8_meetsPixel_2 : decode cX8_meetsPixel 2 = .ok (.lcmp, 1) := by decide +kernel
theorem dX8_meetsPixel_3 : decode cX8_meetsPixel 3 = .ok (.ifCond .eq 9, 3) := by decide +kernel
theorem dX8_meetsPixel_6 : decode cX8_meetsPixel 6 = .ok (.lload_n 2, 1) := by decide +kernel
theorem dX8_meetsPixel_7 : decode cX8_meetsPixel 7 = .ok (.lconst 0, 1) := by decide +kernel
theorem dX8_meetsPixel_8 : decode cX8_meetsPixel 8 = .ok (.lcmp, 1) := by decide +kernel
theorem dX8_meetsPixel_9 : decode cX8_meetsPixel 9 = .ok (.ifCond .ne 5, 3) := by decide +kernel
theorem dX8_meetsPixel_12 : decode cX8_meetsPixel 12 = .ok (.iconst 1, 1) := by decide +kernel
theorem dX8_meetsPixel_13 : decode cX8_meetsPixel 13 = .ok (.ireturn, 1) := by decide +kernel
theorem dX8_meetsPixel_14 : decode cX8_meetsPixel 14 = .ok (.lload_n 2, 1) := by decide +kernel
theorem dX8_meetsPixel_15 : decode cX8_meetsPixel 15 = .ok (.lconst 0, 1) := by decide +kernel
theorem dX8_meetsPixel_16 : decode cX8_meetsPixel 16 = .ok (.lcmp, 1) := by decide +kernel
theorem dX8_meetsPixel_17 : decode cX8_meetsPixel 17 = .ok (.ifCond .le 41, 3) := by decide +kernel
theorem dX8_meetsPixel_20 : decode cX8_meetsPixel 20 = .ok (.lload 4, 2) := by decide +kernel
theorem dX8_meetsPixel_22 : decode cX8_meetsPixel 22 = .ok (.lconst 1, 1) := by decide +kernel
theorem dX8_meetsPixel_23 : decode cX8_meetsPixel 23 = .ok (.lsub, 1) := by decide +kernel
theorem dX8_meetsPixel_24 : decode cX8_meetsPixel 24 = .ok (.lload_n 2, 1) := by decide +kernel
theorem dX8_meetsPixel_25 : decode cX8_meetsPixel 25 = .ok (.lmul, 1) := by decide +kernel
theorem dX8_meetsPixel_26 : decode cX8_meetsPixel 26 = .ok (.lload 6, 2) := by decide +kernel
theorem dX8_meetsPixel_28 : decode cX8_meetsPixel 28 = .ok (.lconst 1, 1) := by decide +kernel
theorem dX8_meetsPixel_29 : decode cX8_meetsPixel 29 = .ok (.ladd, 1) := by decide +kernel
theorem dX8_meetsPixel_30 : decode cX8_meetsPixel 30 = .ok (.lload_n 0, 1) := by decide +kernel
theorem dX8_meetsPixel_31 : decode cX8_meetsPixel 31 = .ok (.lmul, 1) := by decide +kernel
theorem dX8_meetsPixel_32 : decode cX8_meetsPixel 32 = .ok (.lcmp, 1) := by decide +kernel
theorem dX8_meetsPixel_33 : decode cX8_meetsPixel 33 = .ok (.ifCond .ge 23, 3) := by decide +kernel
theorem dX8_meetsPixel_36 : decode cX8_meetsPixel 36 = .ok (.lload 6, 2) := by decide +kernel
theorem dX8_meetsPixel_38 : decode cX8_meetsPixel 38 = .ok (.lconst 1, 1) := by decide +kernel
theorem dX8_meetsPixel_39 : decode cX8_meetsPixel 39 = .ok (.lsub, 1) := by decide +kernel
theorem dX8_meetsPixel_40 : decode cX8_meetsPixel 40 = .ok (.lload_n 0, 1) := by decide +kernel
theorem dX8_meetsPixel_41 : decode cX8_meetsPixel 41 = .ok (.lmul, 1) := by decide +kernel
theorem dX8_meetsPixel_42 : decode cX8_meetsPixel 42 = .ok (.lload 4, 2) := by decide +kernel
theorem dX8_meetsPixel_44 : decode cX8_meetsPixel 44 = .ok (.lconst 1, 1) := by decide +kernel
theorem dX8_meetsPixel_45 : decode cX8_meetsPixel 45 = .ok (.ladd, 1) := by decide +kernel
theorem dX8_meetsPixel_46 : decode cX8_meetsPixel 46 = .ok (.lload_n 2, 1) := by decide +kernel
theorem dX8_meetsPixel_47 : decode cX8_meetsPixel 47 = .ok (.lmul, 1) := by decide +kernel
theorem dX8_meetsPixel_48 : decode cX8_meetsPixel 48 = .ok (.lcmp, 1) := by decide +kernel
theorem dX8_meetsPixel_49 : decode cX8_meetsPixel 49 = .ok (.ifCond .ge 7, 3) := by decide +kernel
theorem dX8_meetsPixel_52 : decode cX8_meetsPixel 52 = .ok (.iconst 1, 1) := by decide +kernel
theorem dX8_meetsPixel_53 : decode cX8_meetsPixel 53 = .ok (.goto 4, 3) := by decide +kernel
theorem dX8_meetsPixel_56 : decode cX8_meetsPixel 56 = .ok (.iconst 0, 1) := by decide +kernel
theorem dX8_meetsPixel_57 : decode cX8_meetsPixel 57 = .ok (.ireturn, 1) := by decide +kernel
theorem dX8_meetsPixel_58 : decode cX8_meetsPixel 58 = .ok (.lload 4, 2) := by decide +kernel
theorem dX8_meetsPixel_60 : decode cX8_meetsPixel 60 = .ok (.lconst 1, 1) := by decide +kernel
theorem dX8_meetsPixel_61 : decode cX8_meetsPixel 61 = .ok (.lsub, 1) := by decide +kernel
theorem dX8_meetsPixel_62 : decode cX8_meetsPixel 62 = .ok (.lload_n 2, 1) := by decide +kernel
theorem dX8_meetsPixel_63 : decode cX8_meetsPixel 63 = .ok (.lmul, 1) := by decide +kernel
theorem dX8_meetsPixel_64 : decode cX8_meetsPixel 64 = .ok (.lload 6, 2) := by decide +kernel
theorem dX8_meetsPixel_66 : decode cX8_meetsPixel 66 = .ok (.lconst 1, 1) := by decide +kernel
theorem dX8_meetsPixel_67 : decode cX8_meetsPixel 67 = .ok (.lsub, 1) := by decide +kernel
theorem dX8_meetsPixel_68 : decode cX8_meetsPixel 68 = .ok (.lload_n 0, 1) := by decide +kernel
theorem dX8_meetsPixel_69 : decode cX8_meetsPixel 69 = .ok (.lmul, 1) := by decide +kernel
theorem dX8_meetsPixel_70 : decode cX8_meetsPixel 70 = .ok (.lcmp, 1) := by decide +kernel
theorem dX8_meetsPixel_71 : decode cX8_meetsPixel 71 = .ok (.ifCond .lt 23, 3) := by decide +kernel
theorem dX8_meetsPixel_74 : decode cX8_meetsPixel 74 = .ok (.lload 6, 2) := by decide +kernel
theorem dX8_meetsPixel_76 : decode cX8_meetsPixel 76 = .ok (.lconst 1, 1) := by decide +kernel
theorem dX8_meetsPixel_77 : decode cX8_meetsPixel 77 = .ok (.ladd, 1) := by decide +kernel
theorem dX8_meetsPixel_78 : decode cX8_meetsPixel 78 = .ok (.lload_n 0, 1) := by decide +kernel
theorem dX8_meetsPixel_79 : decode cX8_meetsPixel 79 = .ok (.lmul, 1) := by decide +kernel
theorem dX8_meetsPixel_80 : decode cX8_meetsPixel 80 = .ok (.lload 4, 2) := by decide +kernel
theorem dX8_meetsPixel_82 : decode cX8_meetsPixel 82 = .ok (.lconst 1, 1) := by decide +kernel
theorem dX8_meetsPixel_83 : decode cX8_meetsPixel 83 = .ok (.ladd, 1) := by decide +kernel
theorem dX8_meetsPixel_84 : decode cX8_meetsPixel 84 = .ok (.lload_n 2, 1) := by decide +kernel
theorem dX8_meetsPixel_85 : decode cX8_meetsPixel 85 = .ok (.lmul, 1) := by decide +kernel
theorem dX8_meetsPixel_86 : decode cX8_meetsPixel 86 = .ok (.lcmp, 1) := by decide +kernel
theorem dX8_meetsPixel_87 : decode cX8_meetsPixel 87 = .ok (.ifCond .le 7, 3) := by decide +kernel
theorem dX8_meetsPixel_90 : decode cX8_meetsPixel 90 = .ok (.iconst 1, 1) := by decide +kernel
theorem dX8_meetsPixel_91 : decode cX8_meetsPixel 91 = .ok (.goto 4, 3) := by decide +kernel
theorem dX8_meetsPixel_94 : decode cX8_meetsPixel 94 = .ok (.iconst 0, 1) := by decide +kernel
theorem dX8_meetsPixel_95 : decode cX8_meetsPixel 95 = .ok (.ireturn, 1) := by decide +kernel
theorem dX9_isBlank_0 : decode cX9_isBlank 0 = .ok (.iload_n 0, 1) := by decide +kernel
theorem dX9_isBlank_1 : decode cX9_isBlank 1 = .ok (.bipush 32, 2) := by decide +kernel
theorem dX9_isBlank_3 : decode cX9_isBlank 3 = .ok (.if_icmp .eq 21, 3) := by decide +kernel
theorem dX9_isBlank_6 : decode cX9_isBlank 6 = .ok (.iload_n 0, 1) := by decide +kernel
theorem dX9_isBlank_7 : decode cX9_isBlank 7 = .ok (.bipush 9, 2) := by decide +kernel
theorem dX9_isBlank_9 : decode cX9_isBlank 9 = .ok (.if_icmp .eq 15, 3) := by decide +kernel
theorem dX9_isBlank_12 : decode cX9_isBlank 12 = .ok (.iload_n 0, 1) := by decide +kernel
theorem dX9_isBlank_13 : decode cX9_isBlank 13 = .ok (.bipush 10, 2) := by decide +kernel
theorem dX9_isBlank_15 : decode cX9_isBlank 15 = .ok (.if_icmp .eq 9, 3) := by decide +kernel
theorem dX9_isBlank_18 : decode cX9_isBlank 18 = .ok (.iload_n 0, 1) := by decide +kernel
theorem dX9_isBlank_19 : decode cX9_isBlank 19 = .ok (.bipush 13, 2) := by decide +kernel
theorem dX9_isBlank_21 : decode cX9_isBlank 21 = .ok (.if_icmp .ne 7, 3) := by decide +kernel
theorem dX9_isBlank_24 : decode cX9_isBlank 24 = .ok (.iconst 1, 1) := by decide +kernel
theorem dX9_isBlank_25 : decode cX9_isBlank 25 = .ok (.goto 4, 3) := by decide +kernel
theorem dX9_isBlank_28 : decode cX9_isBlank 28 = .ok (.iconst 0, 1) := by decide +kernel
theorem dX9_isBlank_29 : decode cX9_isBlank 29 = .ok (.ireturn, 1) := by decide +kernel
theorem dX9_isLetter_0 : decode cX9_isLetter 0 = .ok (.iload_n 0, 1) := by decide +kernel
theorem dX9_isLetter_1 : decode cX9_isLetter 1 = .ok (.bipush 65, 2) := by decide +kernel
theorem dX9_isLetter_3 : decode cX9_isLetter 3 = .ok (.if_icmp .lt 9, 3) := by decide +kernel
theorem dX9_isLetter_6 : decode cX9_isLetter 6 = .ok (.iload_n 0, 1) := by decide +kernel
theorem dX9_isLetter_7 : decode cX9_isLetter 7 = .ok (.bipush 90, 2) := by decide +kernel
theorem dX9_isLetter_9 : decode cX9_isLetter 9 = .ok (.if_icmp .le 15, 3) := by decide +kernel
theorem dX9_isLetter_12 : decode cX9_isLetter 12 = .ok (.iload_n 0, 1) := by decide +kernel
theorem dX9_isLetter_13 : decode cX9_isLetter 13 = .ok (.bipush 97, 2) := by decide +kernel
theorem dX9_isLetter_15 : decode cX9_isLetter 15 = .ok (.if_icmp .lt 13, 3) := by decide +kernel
theorem dX9_isLetter_18 : decode cX9_isLetter 18 = .ok (.iload_n 0, 1) := by decide +kernel
theorem dX9_isLetter_19 : decode cX9_isLetter 19 = .ok (.bipush 122, 2) := by decide +kernel
theorem dX9_isLetter_21 : decode cX9_isLetter 21 = .ok (.if_icmp .gt 7, 3) := by decide +kernel
theorem dX9_isLetter_24 : decode cX9_isLetter 24 = .ok (.iconst 1, 1) := by decide +kernel
theorem dX9_isLetter_25 : decode cX9_isLetter 25 = .ok (.goto 4, 3) := by decide +kernel
theorem dX9_isLetter_28 : decode cX9_isLetter 28 = .ok (.iconst 0, 1) := by decide +kernel
theorem dX9_isLetter_29 : decode cX9_isLetter 29 = .ok (.ireturn, 1) := by decide +kernel
theorem dX9_isDigit_0 : decode cX9_isDigit 0 = .ok (.iload_n 0, 1) := by decide +kernel
theorem dX9_isDigit_1 : decode cX9_isDigit 1 = .ok (.bipush 48, 2) := by decide +kernel
theorem dX9_isDigit_3 : decode cX9_isDigit 3 = .ok (.if_icmp .lt 13, 3) := by decide +kernel
theorem dX9_isDigit_6 : decode cX9_isDigit 6 = .ok (.iload_n 0, 1) := by decide +kernel
theorem dX9_isDigit_7 : decode cX9_isDigit 7 = .ok (.bipush 57, 2) := by decide +kernel
theorem dX9_isDigit_9 : decode cX9_isDigit 9 = .ok (.if_icmp .gt 7, 3) := by decide +kernel
theorem dX9_isDigit_12 : decode cX9_isDigit 12 = .ok (.iconst 1, 1) := by decide +kernel
theorem dX9_isDigit_13 : decode cX9_isDigit 13 = .ok (.goto 4, 3) := by decide +kernel
theorem dX9_isDigit_16 : decode cX9_isDigit 16 = .ok (.iconst 0, 1) := by decide +kernel
theorem dX9_isDigit_17 : decode cX9_isDigit 17 = .ok (.ireturn, 1) := by decide +kernel
theorem dX9_beginsNumber_0 : decode cX9_beginsNumber 0 = .ok (.iload_n 0, 1) := by decide +kernel
theorem dX9_beginsNumber_1 : decode cX9_beginsNumber 1 = .ok (.bipush 48, 2) := by decide +kernel
theorem dX9_beginsNumber_3 : decode cX9_beginsNumber 3 = .ok (.if_icmp .lt 9, 3) := by decide +kernel
theorem dX9_beginsNumber_6 : decode cX9_beginsNumber 6 = .ok (.iload_n 0, 1) := by decide +kernel
theorem dX9_beginsNumber_7 : decode cX9_beginsNumber 7 = .ok (.bipush 57, 2) := by decide +kernel
theorem dX9_beginsNumber_9 : decode cX9_beginsNumber 9 = .ok (.if_icmp .le 21, 3) := by decide +kernel
theorem dX9_beginsNumber_12 : decode cX9_beginsNumber 12 = .ok (.iload_n 0, 1) := by decide +kernel
theorem dX9_beginsNumber_13 : decode cX9_beginsNumber 13 = .ok (.bipush 43, 2) := by decide +kernel
theorem dX9_beginsNumber_15 : decode cX9_beginsNumber 15 = .ok (.if_icmp .eq 15, 3) := by decide +kernel
theorem dX9_beginsNumber_18 : decode cX9_beginsNumber 18 = .ok (.iload_n 0, 1) := by decide +kernel
theorem dX9_beginsNumber_19 : decode cX9_beginsNumber 19 = .ok (.bipush 45, 2) := by decide +kernel
theorem dX9_beginsNumber_21 : decode cX9_beginsNumber 21 = .ok (.if_icmp .eq 9, 3) := by decide +kernel
theorem dX9_beginsNumber_24 : decode cX9_beginsNumber 24 = .ok (.iload_n 0, 1) := by decide +kernel
theorem dX9_beginsNumber_25 : decode cX9_beginsNumber 25 = .ok (.bipush 46, 2) := by decide +kernel
theorem dX9_beginsNumber_27 : decode cX9_beginsNumber 27 = .ok (.if_icmp .ne 7, 3) := by decide +kernel
theorem dX9_beginsNumber_30 : decode cX9_beginsNumber 30 = .ok (.iconst 1, 1) := by decide +kernel
theorem dX9_beginsNumber_31 : decode cX9_beginsNumber 31 = .ok (.goto 4, 3) := by decide +kernel
theorem dX9_beginsNumber_34 : decode cX9_beginsNumber 34 = .ok (.iconst 0, 1) := by decide +kernel
theorem dX9_beginsNumber_35 : decode cX9_beginsNumber 35 = .ok (.ireturn, 1) := by decide +kernel
theorem dX9_isSign_0 : decode cX9_isSign 0 = .ok (.iload_n 0, 1) := by decide +kernel
theorem dX9_isSign_1 : decode cX9_isSign 1 = .ok (.bipush 43, 2) := by decide +kernel
theorem dX9_isSign_3 : decode cX9_isSign 3 = .ok (.if_icmp .eq 9, 3) := by decide +kernel
theorem dX9_isSign_6 : decode cX9_isSign 6 = .ok (.iload_n 0, 1) := by decide +kernel
theorem dX9_isSign_7 : decode cX9_isSign 7 = .ok (.bipush 45, 2) := by decide +kernel
theorem dX9_isSign_9 : decode cX9_isSign 9 = .ok (.if_icmp .ne 7, 3) := by decide +kernel
theorem dX9_isSign_12 : decode cX9_isSign 12 = .ok (.iconst 1, 1) := by decide +kernel
theorem dX9_isSign_13 : decode cX9_isSign 13 = .ok (.goto 4, 3) := by decide +kernel
theorem dX9_isSign_16 : decode cX9_isSign 16 = .ok (.iconst 0, 1) := by decide +kernel
theorem dX9_isSign_17 : decode cX9_isSign 17 = .ok (.ireturn, 1) := by decide +kernel
theorem dX11_isBeyond_0 : decode cX11_isBeyond 0 = .ok (.iload_n 0, 1) := by decide +kernel
theorem dX11_isBeyond_1 : decode cX11_isBeyond 1 = .ok (.iload_n 1, 1) := by decide +kernel
theorem dX11_isBeyond_2 : decode cX11_isBeyond 2 = .ok (.ineg, 1) := by decide +kernel
theorem dX11_isBeyond_3 : decode cX11_isBeyond 3 = .ok (.if_icmp .lt 8, 3) := by decide +kernel
theorem dX11_isBeyond_6 : decode cX11_isBeyond 6 = .ok (.iload_n 0, 1) := by decide +kernel
theorem dX11_isBeyond_7 : decode cX11_isBeyond 7 = .ok (.iload_n 1, 1) := by decide +kernel
theorem dX11_isBeyond_8 : decode cX11_isBeyond 8 = .ok (.if_icmp .le 7, 3) := by decide +kernel
theorem dX11_isBeyond_11 : decode cX11_isBeyond 11 = .ok (.iconst 1, 1) := by decide +kernel
theorem dX11_isBeyond_12 : decode cX11_isBeyond 12 = .ok (.goto 4, 3) := by decide +kernel
theorem dX11_isBeyond_15 : decode cX11_isBeyond 15 = .ok (.iconst 0, 1) := by decide +kernel
theorem dX11_isBeyond_16 : decode cX11_isBeyond 16 = .ok (.ireturn, 1) := by decide +kernel
theorem dX11_isNoSignPoint_0 : decode cX11_isNoSignPoint 0 = .ok (.iload_n 0, 1) := by decide +kernel
theorem dX11_isNoSignPoint_1 : decode cX11_isNoSignPoint 1 = .ok (.ifCond .lt 9, 3) := by decide +kernel
theorem dX11_isNoSignPoint_4 : decode cX11_isNoSignPoint 4 = .ok (.iload_n 0, 1) := by decide +kernel
theorem dX11_isNoSignPoint_5 : decode cX11_isNoSignPoint 5 = .ok (.bipush 32, 2) := by decide +kernel
theorem dX11_isNoSignPoint_7 : decode cX11_isNoSignPoint 7 = .ok (.if_icmp .lt 7, 3) := by decide +kernel
theorem dX11_isNoSignPoint_10 : decode cX11_isNoSignPoint 10 = .ok (.iconst 1, 1) := by decide +kernel
theorem dX11_isNoSignPoint_11 : decode cX11_isNoSignPoint 11 = .ok (.goto 4, 3) := by decide +kernel
theorem dX11_isNoSignPoint_14 : decode cX11_isNoSignPoint 14 = .ok (.iconst 0, 1) := by decide +kernel
theorem dX11_isNoSignPoint_15 : decode cX11_isNoSignPoint 15 = .ok (.ireturn, 1) := by decide +kernel
theorem dX11_isNoNumber_0 : decode cX11_isNoNumber 0 = .ok (.lload_n 0, 1) := by decide +kernel
theorem dX11_isNoNumber_1 : decode cX11_isNoNumber 1 = .ok (.bipush 52, 2) := by decide +kernel
theorem dX11_isNoNumber_3 : decode cX11_isNoNumber 3 = .ok (.lushr, 1) := by decide +kernel
theorem dX11_isNoNumber_4 : decode cX11_isNoNumber 4 = .ok (.ldc2_w 336, 3) := by decide +kernel
theorem dX11_isNoNumber_7 : decode cX11_isNoNumber 7 = .ok (.land, 1) := by decide +kernel
theorem dX11_isNoNumber_8 : decode cX11_isNoNumber 8 = .ok (.ldc2_w 336, 3) := by decide +kernel
theorem dX11_isNoNumber_11 : decode cX11_isNoNumber 11 = .ok (.lcmp, 1) := by decide +kernel
theorem dX11_isNoNumber_12 : decode cX11_isNoNumber 12 = .ok (.ifCond .ne 7, 3) := by decide +kernel
theorem dX11_isNoNumber_15 : decode cX11_isNoNumber 15 = .ok (.iconst 1, 1) := by decide +kernel
theorem dX11_isNoNumber_16 : decode cX11_isNoNumber 16 = .ok (.goto 4, 3) := by decide +kernel
theorem dX11_isNoNumber_19 : decode cX11_isNoNumber 19 = .ok (.iconst 0, 1) := by decide +kernel
theorem dX11_isNoNumber_20 : decode cX11_isNoNumber 20 = .ok (.ireturn, 1) := by decide +kernel
theorem dX11_carryOf_0 : decode cX11_carryOf 0 = .ok (.lload_n 0, 1) := by decide +kernel
theorem dX11_carryOf_1 : decode cX11_carryOf 1 = .ok (.ldc2_w 364, 3) := by decide +kernel
theorem dX11_carryOf_4 : decode cX11_carryOf 4 = .ok (.ladd, 1) := by decide +kernel
theorem dX11_carryOf_5 : decode cX11_carryOf 5 = .ok (.lload_n 2, 1) := by decide +kernel
theorem dX11_carryOf_6 : decode cX11_carryOf 6 = .ok (.ldc2_w 364, 3) := by decide +kernel
theorem dX11_carryOf_9 : decode cX11_carryOf 9 = .ok (.ladd, 1) := by decide +kernel
theorem dX11_carryOf_10 : decode cX11_carryOf 10 = .ok (.lcmp, 1) := by decide +kernel
theorem dX11_carryOf_11 : decode cX11_carryOf 11 = .ok (.ifCond .ge 7, 3) := by decide +kernel
theorem dX11_carryOf_14 : decode cX11_carryOf 14 = .ok (.iconst 1, 1) := by decide +kernel
theorem dX11_carryOf_15 : decode cX11_carryOf 15 = .ok (.goto 4, 3) := by decide +kernel
theorem dX11_carryOf_18 : decode cX11_carryOf 18 = .ok (.iconst 0, 1) := by decide +kernel
theorem dX11_carryOf_19 : decode cX11_carryOf 19 = .ok (.ireturn, 1) := by decide +kernel
theorem dX11_highOf_0 : decode cX11_highOf 0 = .ok (.ldc2_w 366, 3) := by decide +kernel
theorem dX11_highOf_3 : decode cX11_highOf 3 = .ok (.lstore 4, 2) := by decide +kernel
theorem dX11_highOf_5 : decode cX11_highOf 5 = .ok (.lload_n 0, 1) := by decide +kernel
theorem dX11_highOf_6 : decode cX11_highOf 6 = .ok (.lload 4, 2) := by decide +kernel
theorem dX11_highOf_8 : decode cX11_highOf 8 = .ok (.land, 1) := by decide +kernel
theorem dX11_highOf_9 : decode cX11_highOf 9 = .ok (.lstore 6, 2) := by decide +kernel
theorem dX11_highOf_11 : decode cX11_highOf 11 = .ok (.lload_n 0, 1) := by decide +kernel
theorem dX11_highOf_12 : decode cX11_highOf 12 = .ok (.bipush 32, 2) := by decide +kernel
theorem dX11_highOf_14 : decode cX11_highOf 14 = .ok (.lshr, 1) := by decide +kernel
theorem dX11_highOf_15 : decode cX11_highOf 15 = .ok (.lstore 8, 2) := by decide +kernel
theorem dX11_highOf_17 : decode cX11_highOf 17 = .ok (.lload_n 2, 1) := by decide +kernel
theorem dX11_highOf_18 : decode cX11_highOf 18 = .ok (.lload 4, 2) := by decide +kernel
theorem dX11_highOf_20 : decode cX11_highOf 20 = .ok (.land, 1) := by decide +kernel
theorem dX11_highOf_21 : decode cX11_highOf 21 = .ok (.lstore 10, 2) := by decide +kernel
theorem dX11_highOf_23 : decode cX11_highOf 23 = .ok (.lload_n 2, 1) := by decide +kernel
theorem dX11_highOf_24 : decode cX11_highOf 24 = .ok (.bipush 32, 2) := by decide +kernel
theorem dX11_highOf_26 : decode cX11_highOf 26 = .ok (.lshr, 1) := by decide +kernel
theorem dX11_highOf_27 : decode cX11_highOf 27 = .ok (.lstore 12, 2) := by decide +kernel
theorem dX11_highOf_29 : decode cX11_highOf 29 = .ok (.lload 8, 2) := by decide +kernel
theorem dX11_highOf_31 : decode cX11_highOf 31 = .ok (.lload 10, 2) := by decide +kernel
theorem dX11_highOf_33 : decode cX11_highOf 33 = .ok (.lmul, 1) := by decide +kernel
theorem dX11_highOf_34 : decode cX11_highOf 34 = .ok (.lload 6, 2) := by decide +kernel
theorem dX11_highOf_36 : decode cX11_highOf 36 = .ok (.lload 10, 2) := by decide +kernel
theorem dX11_highOf_38 : decode cX11_highOf 38 = .ok (.lmul, 1) := by decide +kernel
theorem dX11_highOf_39 : decode cX11_highOf 39 = .ok (.bipush 32, 2) := by decide +kernel
theorem dX11_highOf_41 : decode cX11_highOf 41 = .ok (.lushr, 1) := by decide +kernel
theorem dX11_highOf_42 : decode cX11_highOf 42 = .ok (.ladd, 1) := by decide +kernel
theorem dX11_highOf_43 : decode cX11_highOf 43 = .ok (.lstore 14, 2) := by decide +kernel
theorem dX11_highOf_45 : decode cX11_highOf 45 = .ok (.lload 6, 2) := by decide +kernel
theorem dX11_highOf_47 : decode cX11_highOf 47 = .ok (.lload 12, 2) := by decide +kernel
theorem dX11_highOf_49 : decode cX11_highOf 49 = .ok (.lmul, 1) := by decide +kernel
theorem dX11_highOf_50 : decode cX11_highOf 50 = .ok (.lload 14, 2) := by decide +kernel
theorem dX11_highOf_52 : decode cX11_highOf 52 = .ok (.lload 4, 2) := by decide +kernel
theorem dX11_highOf_54 : decode cX11_highOf 54 = .ok (.land, 1) := by decide +kernel
theorem dX11_highOf_55 : decode cX11_highOf 55 = .ok (.ladd, 1) := by decide +kernel
theorem dX11_highOf_56 : decode cX11_highOf 56 = .ok (.lstore 16, 2) := by decide +kernel
theorem dX11_highOf_58 : decode cX11_highOf 58 = .ok (.lload 8, 2) := by decide +kernel
theorem dX11_highOf_60 : decode cX11_highOf 60 = .ok (.lload 12, 2) := by decide +kernel
theorem dX11_highOf_62 : decode cX11_highOf 62 = .ok (.lmul, 1) := by decide +kernel
theorem dX11_highOf_63 : decode cX11_highOf 63 = .ok (.lload 14, 2) := by decide +kernel
theorem dX11_highOf_65 : decode cX11_highOf 65 = .ok (.bipush 32, 2) := by decide +kernel
theorem dX11_highOf_67 : decode cX11_highOf 67 = .ok (.lshr, 1) := by decide +kernel
theorem dX11_highOf_68 : decode cX11_highOf 68 = .ok (.ladd, 1) := by decide +kernel
theorem dX11_highOf_69 : decode cX11_highOf 69 = .ok (.lload 16, 2) := by decide +kernel
theorem dX11_highOf_71 : decode cX11_highOf 71 = .ok (.bipush 32, 2) := by decide +kernel
theorem dX11_highOf_73 : decode cX11_highOf 73 = .ok (.lshr, 1) := by decide +kernel
theorem dX11_highOf_74 : decode cX11_highOf 74 = .ok (.ladd, 1) := by decide +kernel
theorem dX11_highOf_75 : decode cX11_highOf 75 = .ok (.lreturn, 1) := by decide +kernel
theorem dX11_keyOf_0 : decode cX11_keyOf 0 = .ok (.iload_n 0, 1) := by decide +kernel
theorem dX11_keyOf_1 : decode cX11_keyOf 1 = .ok (.i2l, 1) := by decide +kernel
theorem dX11_keyOf_2 : decode cX11_keyOf 2 = .ok (.bipush 32, 2) := by decide +kernel
theorem dX11_keyOf_4 : decode cX11_keyOf 4 = .ok (.lshl, 1) := by decide +kernel
theorem dX11_keyOf_5 : decode cX11_keyOf 5 = .ok (.iload_n 1, 1) := by decide +kernel
theorem dX11_keyOf_6 : decode cX11_keyOf 6 = .ok (.ldc_w 370, 3) := by decide +kernel
theorem dX11_keyOf_9 : decode cX11_keyOf 9 = .ok (.ixor, 1) := by decide +kernel
theorem dX11_keyOf_10 : decode cX11_keyOf 10 = .ok (.i2l, 1) := by decide +kernel
theorem dX11_keyOf_11 : decode cX11_keyOf 11 = .ok (.ldc2_w 366, 3) := by decide +kernel
theorem dX11_keyOf_14 : decode cX11_keyOf 14 = .ok (.land, 1) := by decide +kernel
theorem dX11_keyOf_15 : decode cX11_keyOf 15 = .ok (.lor, 1) := by decide +kernel
theorem dX11_keyOf_16 : decode cX11_keyOf 16 = .ok (.lreturn, 1) := by decide +kernel
theorem dX11_keyX_0 : decode cX11_keyX 0 = .ok (.lload_n 0, 1) := by decide +kernel
theorem dX11_keyX_1 : decode cX11_keyX 1 = .ok (.bipush 32, 2) := by decide +kernel
theorem dX11_keyX_3 : decode cX11_keyX 3 = .ok (.lshr, 1) := by decide +kernel
theorem dX11_keyX_4 : decode cX11_keyX 4 = .ok (.l2i, 1) := by decide +kernel
theorem dX11_keyX_5 : decode cX11_keyX 5 = .ok (.ireturn, 1) := by decide +kernel
theorem dX11_keyY_0 : decode cX11_keyY 0 = .ok (.lload_n 0, 1) := by decide +kernel
theorem dX11_keyY_1 : decode cX11_keyY 1 = .ok (.l2i, 1) := by decide +kernel
theorem dX11_keyY_2 : decode cX11_keyY 2 = .ok (.ldc_w 370, 3) := by decide +kernel
theorem dX11_keyY_5 : decode cX11_keyY 5 = .ok (.ixor, 1) := by decide +kernel
theorem dX11_keyY_6 : decode cX11_keyY 6 = .ok (.ireturn, 1) := by decide +kernel
theorem dX12_thrown_0 : decode cX12_thrown 0 = .ok (.aload_n 0, 1) := by decide +kernel
theorem dX12_thrown_1 : decode cX12_thrown 1 = .ok (.getfield 271, 3) := by decide +kernel
theorem dX12_thrown_4 : decode cX12_thrown 4 = .ok (.ireturn, 1) := by decide +kernel
theorem dX12_in_0 : decode cX12_in 0 = .ok (.lload_n 0, 1) := by decide +kernel
theorem dX12_in_1 : decode cX12_in 1 = .ok (.lload_n 2, 1) := by decide +kernel
theorem dX12_in_2 : decode cX12_in 2 = .ok (.lcmp, 1) := by decide +kernel
theorem dX12_in_3 : decode cX12_in 3 = .ok (.ifCond .lt 14, 3) := by decide +kernel
theorem dX12_in_6 : decode cX12_in 6 = .ok (.lload_n 0, 1) := by decide +kernel
theorem dX12_in_7 : decode cX12_in 7 = .ok (.lload 4, 2) := by decide +kernel
theorem dX12_in_9 : decode cX12_in 9 = .ok (.lcmp, 1) := by decide +kernel
theorem dX12_in_10 : decode cX12_in 10 = .ok (.ifCond .gt 7, 3) := by decide +kernel
theorem dX12_in_13 : decode cX12_in 13 = .ok (.iconst 1, 1) := by decide +kernel
theorem dX12_in_14 : decode cX12_in 14 = .ok (.goto 4, 3) := by decide +kernel
theorem dX12_in_17 : decode cX12_in 17 = .ok (.iconst 0, 1) := by decide +kernel
theorem dX12_in_18 : decode cX12_in 18 = .ok (.ireturn, 1) := by decide +kernel
theorem dX12_isSlot_0 : decode cX12_isSlot 0 = .ok (.iload_n 0, 1) := by decide +kernel
theorem dX12_isSlot_1 : decode cX12_isSlot 1 = .ok (.ifCond .lt 13, 3) := by decide +kernel
theorem dX12_isSlot_4 : decode cX12_isSlot 4 = .ok (.iload_n 0, 1) := by decide +kernel
theorem dX12_isSlot_5 : decode cX12_isSlot 5 = .ok (.bipush 32, 2) := by decide +kernel
theorem dX12_isSlot_7 : decode cX12_isSlot 7 = .ok (.if_icmp .ge 7, 3) := by decide +kernel
theorem dX12_isSlot_10 : decode cX12_isSlot 10 = .ok (.iconst 1, 1) := by decide +kernel
theorem dX12_isSlot_11 : decode cX12_isSlot 11 = .ok (.goto 4, 3) := by decide +kernel
theorem dX12_isSlot_14 : decode cX12_isSlot 14 = .ok (.iconst 0, 1) := by decide +kernel
theorem dX12_isSlot_15 : decode cX12_isSlot 15 = .ok (.ireturn, 1) := by decide +kernel
theorem dX12_isBlank_0 : decode cX12_isBlank 0 = .ok (.iload_n 0, 1) := by decide +kernel
theorem dX12_isBlank_1 : decode cX12_isBlank 1 = .ok (.bipush 32, 2) := by decide +kernel
theorem dX12_isBlank_3 : decode cX12_isBlank 3 = .ok (.if_icmp .eq 21, 3) := by decide +kernel
theorem dX12_isBlank_6 : decode cX12_isBlank 6 = .ok (.iload_n 0, 1) := by decide +kernel
theorem dX12_isBlank_7 : decode cX12_isBlank 7 = .ok (.bipush 9, 2) := by decide +kernel
theorem dX12_isBlank_9 : decode cX12_isBlank 9 = .ok (.if_icmp .eq 15, 3) := by decide +kernel
theorem dX12_isBlank_12 : decode cX12_isBlank 12 = .ok (.iload_n 0, 1) := by decide +kernel
theorem dX12_isBlank_13 : decode cX12_isBlank 13 = .ok (.bipush 10, 2) := by decide +kernel
theorem dX12_isBlank_15 : decode cX12_isBlank 15 = .ok (.if_icmp .eq 9, 3) := by decide +kernel
theorem dX12_isBlank_18 : decode cX12_isBlank 18 = .ok (.iload_n 0, 1) := by decide +kernel
theorem dX12_isBlank_19 : decode cX12_isBlank 19 = .ok (.bipush 13, 2) := by decide +kernel
theorem dX12_isBlank_21 : decode cX12_isBlank 21 = .ok (.if_icmp .ne 7, 3) := by decide +kernel
theorem dX12_isBlank_24 : decode cX12_isBlank 24 = .ok (.iconst 1, 1) := by decide +kernel
theorem dX12_isBlank_25 : decode cX12_isBlank 25 = .ok (.goto 4, 3) := by decide +kernel
theorem dX12_isBlank_28 : decode cX12_isBlank 28 = .ok (.iconst 0, 1) := by decide +kernel
theorem dX12_isBlank_29 : decode cX12_isBlank 29 = .ok (.ireturn, 1) := by decide +kernel
theorem dX12_isLetter_0 : decode cX12_isLetter 0 = .ok (.iload_n 0, 1) := by decide +kernel
theorem dX12_isLetter_1 : decode cX12_isLetter 1 = .ok (.bipush 97, 2) := by decide +kernel
theorem dX12_isLetter_3 : decode cX12_isLetter 3 = .ok (.if_icmp .lt 9, 3) := by decide +kernel
theorem dX12_isLetter_6 : decode cX12_isLetter 6 = .ok (.iload_n 0, 1) := by decide +kernel
theorem dX12_isLetter_7 : decode cX12_isLetter 7 = .ok (.bipush 122, 2) := by decide +kernel
theorem dX12_isLetter_9 : decode cX12_isLetter 9 = .ok (.if_icmp .le 15, 3) := by decide +kernel
theorem dX12_isLetter_12 : decode cX12_isLetter 12 = .ok (.iload_n 0, 1) := by decide +kernel
theorem dX12_isLetter_13 : decode cX12_isLetter 13 = .ok (.bipush 65, 2) := by decide +kernel
theorem dX12_isLetter_15 : decode cX12_isLetter 15 = .ok (.if_icmp .lt 13, 3) := by decide +kernel
theorem dX12_isLetter_18 : decode cX12_isLetter 18 = .ok (.iload_n 0, 1) := by decide +kernel
theorem dX12_isLetter_19 : decode cX12_isLetter 19 = .ok (.bipush 90, 2) := by decide +kernel
theorem dX12_isLetter_21 : decode cX12_isLetter 21 = .ok (.if_icmp .gt 7, 3) := by decide +kernel
theorem dX12_isLetter_24 : decode cX12_isLetter 24 = .ok (.iconst 1, 1) := by decide +kernel
theorem dX12_isLetter_25 : decode cX12_isLetter 25 = .ok (.goto 4, 3) := by decide +kernel
theorem dX12_isLetter_28 : decode cX12_isLetter 28 = .ok (.iconst 0, 1) := by decide +kernel
theorem dX12_isLetter_29 : decode cX12_isLetter 29 = .ok (.ireturn, 1) := by decide +kernel
theorem dX12_isDigit_0 : decode cX12_isDigit 0 = .ok (.iload_n 0, 1) := by decide +kernel
theorem dX12_isDigit_1 : decode cX12_isDigit 1 = .ok (.bipush 48, 2) := by decide +kernel
theorem dX12_isDigit_3 : decode cX12_isDigit 3 = .ok (.if_icmp .lt 13, 3) := by decide +kernel
theorem dX12_isDigit_6 : decode cX12_isDigit 6 = .ok (.iload_n 0, 1) := by decide +kernel
theorem dX12_isDigit_7 : decode cX12_isDigit 7 = .ok (.bipush 57, 2) := by decide +kernel
theorem dX12_isDigit_9 : decode cX12_isDigit 9 = .ok (.if_icmp .gt 7, 3) := by decide +kernel
theorem dX12_isDigit_12 : decode cX12_isDigit 12 = .ok (.iconst 1, 1) := by decide +kernel
theorem dX12_isDigit_13 : decode cX12_isDigit 13 = .ok (.goto 4, 3) := by decide +kernel
theorem dX12_isDigit_16 : decode cX12_isDigit 16 = .ok (.iconst 0, 1) := by decide +kernel
theorem dX12_isDigit_17 : decode cX12_isDigit 17 = .ok (.ireturn, 1) := by decide +kernel
theorem dX12_isSign_0 : decode cX12_isSign 0 = .ok (.iload_n 0, 1) := by decide +kernel
theorem dX12_isSign_1 : decode cX12_isSign 1 = .ok (.bipush 43, 2) := by decide +kernel
theorem dX12_isSign_3 : decode cX12_isSign 3 = .ok (.if_icmp .eq 9, 3) := by decide +kernel
theorem dX12_isSign_6 : decode cX12_isSign 6 = .ok (.iload_n 0, 1) := by decide +kernel
theorem dX12_isSign_7 : decode cX12_isSign 7 = .ok (.bipush 45, 2) := by decide +kernel
theorem dX12_isSign_9 : decode cX12_isSign 9 = .ok (.if_icmp .ne 7, 3) := by decide +kernel
theorem dX12_isSign_12 : decode cX12_isSign 12 = .ok (.iconst 1, 1) := by decide +kernel
theorem dX12_isSign_13 : decode cX12_isSign 13 = .ok (.goto 4, 3) := by decide +kernel
theorem dX12_isSign_16 : decode cX12_isSign 16 = .ok (.iconst 0, 1) := by decide +kernel
theorem dX12_isSign_17 : decode cX12_isSign 17 = .ok (.ireturn, 1) := by decide +kernel
theorem dX12_large_0 : decode cX12_large 0 = .ok (.iload_n 0, 1) := by decide +kernel
theorem dX12_large_1 : decode cX12_large 1 = .ok (.bipush 97, 2) := by decide +kernel
theorem dX12_large_3 : decode cX12_large 3 = .ok (.if_icmp .lt 16, 3) := by decide +kernel
theorem dX12_large_6 : decode cX12_large 6 = .ok (.iload_n 0, 1) := by decide +kernel
theorem dX12_large_7 : decode cX12_large 7 = .ok (.bipush 122, 2) := by decide +kernel
theorem dX12_large_9 : decode cX12_large 9 = .ok (.if_icmp .gt 10, 3) := by decide +kernel
theorem dX12_large_12 : decode cX12_large 12 = .ok (.iload_n 0, 1) := by decide +kernel
theorem dX12_large_13 : decode cX12_large 13 = .ok (.bipush 32, 2) := by decide +kernel
theorem dX12_large_15 : decode cX12_large 15 = .ok (.isub, 1) := by decide +kernel
theorem dX12_large_16 : decode cX12_large 16 = .ok (.goto 4, 3) := by decide +kernel
theorem dX12_large_19 : decode cX12_large 19 = .ok (.iload_n 0, 1) := by decide +kernel
theorem dX12_large_20 : decode cX12_large 20 = .ok (.ireturn, 1) := by decide +kernel
theorem dX12_there_0 : decode cX12_there 0 = .ok (.aload_n 0, 1) := by decide +kernel
theorem dX12_there_1 : decode cX12_there 1 = .ok (.getfield 300, 3) := by decide +kernel
theorem dX12_there_4 : decode cX12_there 4 = .ok (.iload_n 1, 1) := by decide +kernel
theorem dX12_there_5 : decode cX12_there 5 = .ok (.iadd, 1) := by decide +kernel
theorem dX12_there_6 : decode cX12_there 6 = .ok (.aload_n 0, 1) := by decide +kernel
theorem dX12_there_7 : decode cX12_there 7 = .ok (.getfield 303, 3) := by decide +kernel
theorem dX12_there_10 : decode cX12_there 10 = .ok (.if_icmp .gt 7, 3) := by decide +kernel
theorem dX12_there_13 : decode cX12_there 13 = .ok (.iconst 1, 1) := by decide +kernel
theorem dX12_there_14 : decode cX12_there 14 = .ok (.goto 4, 3) := by decide +kernel
theorem dX12_there_17 : decode cX12_there 17 = .ok (.iconst 0, 1) := by decide +kernel
theorem dX12_there_18 : decode cX12_there 18 = .ok (.ireturn, 1) := by decide +kernel
theorem dX12_isNoNumber_0 : decode cX12_isNoNumber 0 = .ok (.lload_n 0, 1) := by decide +kernel
theorem dX12_isNoNumber_1 : decode cX12_isNoNumber 1 = .ok (.bipush 52, 2) := by decide +kernel
theorem dX12_isNoNumber_3 : decode cX12_isNoNumber 3 = .ok (.lushr, 1) := by decide +kernel
theorem dX12_isNoNumber_4 : decode cX12_isNoNumber 4 = .ok (.ldc2_w 497, 3) := by decide +kernel
theorem dX12_isNoNumber_7 : decode cX12_isNoNumber 7 = .ok (.land, 1) := by decide +kernel
theorem dX12_isNoNumber_8 : decode cX12_isNoNumber 8 = .ok (.ldc2_w 497, 3) := by decide +kernel
theorem dX12_isNoNumber_11 : decode cX12_isNoNumber 11 = .ok (.lcmp, 1) := by decide +kernel
theorem dX12_isNoNumber_12 : decode cX12_isNoNumber 12 = .ok (.ifCond .ne 17, 3) := by decide +kernel
theorem dX12_isNoNumber_15 : decode cX12_isNoNumber 15 = .ok (.lload_n 0, 1) := by decide +kernel
theorem dX12_isNoNumber_16 : decode cX12_isNoNumber 16 = .ok (.ldc2_w 499, 3) := by decide +kernel
theorem dX12_isNoNumber_19 : decode cX12_isNoNumber 19 = .ok (.land, 1) := by decide +kernel
theorem dX12_isNoNumber_20 : decode cX12_isNoNumber 20 = .ok (.lconst 0, 1) := by decide +kernel
theorem dX12_isNoNumber_21 : decode cX12_isNoNumber 21 = .ok (.lcmp, 1) := by decide +kernel
theorem dX12_isNoNumber_22 : decode cX12_isNoNumber 22 = .ok (.ifCond .eq 7, 3) := by decide +kernel
theorem dX12_isNoNumber_25 : decode cX12_isNoNumber 25 = .ok (.iconst 1, 1) := by decide +kernel
theorem dX12_isNoNumber_26 : decode cX12_isNoNumber 26 = .ok (.goto 4, 3) := by decide +kernel
theorem dX12_isNoNumber_29 : decode cX12_isNoNumber 29 = .ok (.iconst 0, 1) := by decide +kernel
theorem dX12_isNoNumber_30 : decode cX12_isNoNumber 30 = .ok (.ireturn, 1) := by decide +kernel
theorem dX12_isFar_0 : decode cX12_isFar 0 = .ok (.lload_n 0, 1) := by decide +kernel
theorem dX12_isFar_1 : decode cX12_isFar 1 = .ok (.ldc2_w 585, 3) := by decide +kernel
theorem dX12_isFar_4 : decode cX12_isFar 4 = .ok (.ldc2_w 436, 3) := by decide +kernel
theorem dX12_isFar_7 : decode cX12_isFar 7 = .ok (.invokestatic 287, 3) := by decide +kernel
theorem dX12_isFar_10 : decode cX12_isFar 10 = .ok (.ireturn, 1) := by decide +kernel
theorem dX12_gap_0 : decode cX12_gap 0 = .ok (.lload_n 0, 1) := by decide +kernel
theorem dX12_gap_1 : decode cX12_gap 1 = .ok (.lload_n 2, 1) := by decide +kernel
theorem dX12_gap_2 : decode cX12_gap 2 = .ok (.lcmp, 1) := by decide +kernel
theorem dX12_gap_3 : decode cX12_gap 3 = .ok (.ifCond .ge 9, 3) := by decide +kernel
theorem dX12_gap_6 : decode cX12_gap 6 = .ok (.lload_n 2, 1) := by decide +kernel
theorem dX12_gap_7 : decode cX12_gap 7 = .ok (.lload_n 0, 1) := by decide +kernel
theorem dX12_gap_8 : decode cX12_gap 8 = .ok (.lsub, 1) := by decide +kernel
theorem dX12_gap_9 : decode cX12_gap 9 = .ok (.goto 18, 3) := by decide +kernel
theorem dX12_gap_12 : decode cX12_gap 12 = .ok (.lload_n 0, 1) := by decide +kernel
theorem dX12_gap_13 : decode cX12_gap 13 = .ok (.lload 4, 2) := by decide +kernel
theorem dX12_gap_15 : decode cX12_gap 15 = .ok (.lcmp, 1) := by decide +kernel
theorem dX12_gap_16 : decode cX12_gap 16 = .ok (.ifCond .le 10, 3) := by decide +kernel
theorem dX12_gap_19 : decode cX12_gap 19 = .ok (.lload_n 0, 1) := by decide +kernel
theorem dX12_gap_20 : decode cX12_gap 20 = .ok (.lload 4, 2) := by decide +kernel
theorem dX12_gap_22 : decode cX12_gap 22 = .ok (.lsub, 1) := by decide +kernel
theorem dX12_gap_23 : decode cX12_gap 23 = .ok (.goto 4, 3) := by decide +kernel
theorem dX12_gap_26 : decode cX12_gap 26 = .ok (.lconst 0, 1) := by decide +kernel
theorem dX12_gap_27 : decode cX12_gap 27 = .ok (.lreturn, 1) := by decide +kernel
theorem dX12_isPoint_0 : decode cX12_isPoint 0 = .ok (.iload_n 0, 1) := by decide +kernel
theorem dX12_isPoint_1 : decode cX12_isPoint 1 = .ok (.ifCond .lt 13, 3) := by decide +kernel
theorem dX12_isPoint_4 : decode cX12_isPoint 4 = .ok (.iload_n 0, 1) := by decide +kernel
theorem dX12_isPoint_5 : decode cX12_isPoint 5 = .ok (.bipush 32, 2) := by decide +kernel
theorem dX12_isPoint_7 : decode cX12_isPoint 7 = .ok (.if_icmp .ge 7, 3) := by decide +kernel
theorem dX12_isPoint_10 : decode cX12_isPoint 10 = .ok (.iconst 1, 1) := by decide +kernel
theorem dX12_isPoint_11 : decode cX12_isPoint 11 = .ok (.goto 4, 3) := by decide +kernel
theorem dX12_isPoint_14 : decode cX12_isPoint 14 = .ok (.iconst 0, 1) := by decide +kernel
theorem dX12_isPoint_15 : decode cX12_isPoint 15 = .ok (.ireturn, 1) := by decide +kernel
theorem dX12_cross_0 : decode cX12_cross 0 = .ok (.lload_n 0, 1) := by decide +kernel
theorem dX12_cross_1 : decode cX12_cross 1 = .ok (.lload 6, 2) := by decide +kernel
theorem dX12_cross_3 : decode cX12_cross 3 = .ok (.lmul, 1) := by decide +kernel
theorem dX12_cross_4 : decode cX12_cross 4 = .ok (.lload_n 2, 1) := by decide +kernel
theorem dX12_cross_5 : decode cX12_cross 5 = .ok (.lload 4, 2) := by decide +kernel
theorem dX12_cross_7 : decode cX12_cross 7 = .ok (.lmul, 1) := by decide +kernel
theorem dX12_cross_8 : decode cX12_cross 8 = .ok (.lsub, 1) := by decide +kernel
theorem dX12_cross_9 : decode cX12_cross 9 = .ok (.lreturn, 1) := by decide +kernel
theorem dX12_signOf_0 : decode cX12_signOf 0 = .ok (.lload_n 0, 1) := by decide +kernel
theorem dX12_signOf_1 : decode cX12_signOf 1 = .ok (.lconst 0, 1) := by decide +kernel
theorem dX12_signOf_2 : decode cX12_signOf 2 = .ok (.lcmp, 1) := by decide +kernel
theorem dX12_signOf_3 : decode cX12_signOf 3 = .ok (.ifCond .ge 7, 3) := by decide +kernel
theorem dX12_signOf_6 : decode cX12_signOf 6 = .ok (.iconst (-1), 1) := by decide +kernel
theorem dX12_signOf_7 : decode cX12_signOf 7 = .ok (.goto 14, 3) := by decide +kernel
theorem dX12_signOf_10 : decode cX12_signOf 10 = .ok (.lload_n 0, 1) := by decide +kernel
theorem dX12_signOf_11 : decode cX12_signOf 11 = .ok (.lconst 0, 1) := by decide +kernel
theorem dX12_signOf_12 : decode cX12_signOf 12 = .ok (.lcmp, 1) := by decide +kernel
theorem dX12_signOf_13 : decode cX12_signOf 13 = .ok (.ifCond .le 7, 3) := by decide +kernel
theorem dX12_signOf_16 : decode cX12_signOf 16 = .ok (.iconst 1, 1) := by decide +kernel
theorem dX12_signOf_17 : decode cX12_signOf 17 = .ok (.goto 4, 3) := by decide +kernel
theorem dX12_signOf_20 : decode cX12_signOf 20 = .ok (.iconst 0, 1) := by decide +kernel
theorem dX12_signOf_21 : decode cX12_signOf 21 = .ok (.ireturn, 1) := by decide +kernel
theorem dX12_turn_0 : decode cX12_turn 0 = .ok (.lload 4, 2) := by decide +kernel
theorem dX12_turn_2 : decode cX12_turn 2 = .ok (.lload_n 0, 1) := by decide +kernel
theorem dX12_turn_3 : decode cX12_turn 3 = .ok (.lsub, 1) := by decide +kernel
theorem dX12_turn_4 : decode cX12_turn 4 = .ok (.lload 6, 2) := by decide +kernel
theorem dX12_turn_6 : decode cX12_turn 6 = .ok (.lload_n 2, 1) := by decide +kernel
theorem dX12_turn_7 : decode cX12_turn 7 = .ok (.lsub, 1) := by decide +kernel
theorem dX12_turn_8 : decode cX12_turn 8 = .ok (.lload 8, 2) := by decide +kernel
theorem dX12_turn_10 : decode cX12_turn 10 = .ok (.lload_n 0, 1) := by decide +kernel
theorem dX12_turn_11 : decode cX12_turn 11 = .ok (.lsub, 1) := by decide +kernel
theorem dX12_turn_12 : decode cX12_turn 12 = .ok (.lload 10, 2) := by decide +kernel
theorem dX12_turn_14 : decode cX12_turn 14 = .ok (.lload_n 2, 1) := by decide +kernel
theorem dX12_turn_15 : decode cX12_turn 15 = .ok (.lsub, 1) := by decide +kernel
theorem dX12_turn_16 : decode cX12_turn 16 = .ok (.invokestatic 644, 3) := by decide +kernel
theorem dX12_turn_19 : decode cX12_turn 19 = .ok (.invokestatic 648, 3) := by decide +kernel
theorem dX12_turn_22 : decode cX12_turn 22 = .ok (.ireturn, 1) := by decide +kernel
theorem dX12_isBefore_0 : decode cX12_isBefore 0 = .ok (.lload_n 0, 1) := by decide +kernel
theorem dX12_isBefore_1 : decode cX12_isBefore 1 = .ok (.lload 4, 2) := by decide +kernel
theorem dX12_isBefore_3 : decode cX12_isBefore 3 = .ok (.lcmp, 1) := by decide +kernel
theorem dX12_isBefore_4 : decode cX12_isBefore 4 = .ok (.ifCond .lt 17, 3) := by decide +kernel
theorem dX12_isBefore_7 : decode cX12_isBefore 7 = .ok (.lload_n 0, 1) := by decide +kernel
theorem dX12_isBefore_8 : decode cX12_isBefore 8 = .ok (.lload 4, 2) := by decide +kernel
theorem dX12_isBefore_10 : decode cX12_isBefore 10 = .ok (.lcmp, 1) := by decide +kernel
theorem dX12_isBefore_11 : decode cX12_isBefore 11 = .ok (.ifCond .ne 14, 3) := by decide +kernel
theorem dX12_isBefore_14 : decode cX12_isBefore 14 = .ok (.lload_n 2, 1) := by decide +kernel
theorem dX12_isBefore_15 : decode cX12_isBefore 15 = .ok (.lload 6, 2) := by decide +kernel
theorem dX12_isBefore_17 : decode cX12_isBefore 17 = .ok (.lcmp, 1) := by decide +kernel
theorem dX12_isBefore_18 : decode cX12_isBefore 18 = .ok (.ifCond .ge 7, 3) := by decide +kernel
theorem dX12_isBefore_21 : decode cX12_isBefore 21 = .ok (.iconst 1, 1) := by decide +kernel
theorem dX12_isBefore_22 : decode cX12_isBefore 22 = .ok (.goto 4, 3) := by decide +kernel
theorem dX12_isBefore_25 : decode cX12_isBefore 25 = .ok (.iconst 0, 1) := by decide +kernel
theorem dX12_isBefore_26 : decode cX12_isBefore 26 = .ok (.ireturn, 1) := by decide +kernel
theorem dX12_isBetween_0 : decode cX12_isBetween 0 = .ok (.lload_n 0, 1) := by decide +kernel
theorem dX12_isBetween_1 : decode cX12_isBetween 1 = .ok (.lload_n 2, 1) := by decide +kernel
theorem dX12_isBetween_2 : decode cX12_isBetween 2 = .ok (.lload 4, 2) := by decide +kernel
theorem dX12_isBetween_4 : decode cX12_isBetween 4 = .ok (.lload 6, 2) := by decide +kernel
theorem dX12_isBetween_6 : decode cX12_isBetween 6 = .ok (.invokestatic 644, 3) := by decide +kernel
theorem dX12_isBetween_9 : decode cX12_isBetween 9 = .ok (.lstore 12, 2) := by decide +kernel
theorem dX12_isBetween_11 : decode cX12_isBetween 11 = .ok (.lload_n 0, 1) := by decide +kernel
theorem dX12_isBetween_12 : decode cX12_isBetween 12 = .ok (.lload_n 2, 1) := by decide +kernel
theorem dX12_isBetween_13 : decode cX12_isBetween 13 = .ok (.lload 8, 2) := by decide +kernel
theorem dX12_isBetween_15 : decode cX12_isBetween 15 = .ok (.lload 10, 2) := by decide +kernel
theorem dX12_isBetween_17 : decode cX12_isBetween 17 = .ok (.invokestatic 644, 3) := by decide +kernel
theorem dX12_isBetween_20 : decode cX12_isBetween 20 = .ok (.lstore 14, 2) := by decide +kernel
theorem dX12_isBetween_22 : decode cX12_isBetween 22 = .ok (.lload 8, 2) := by decide +kernel
theorem dX12_isBetween_24 : decode cX12_isBetween 24 = .ok (.lload 10, 2) := by decide +kernel
theorem dX12_isBetween_26 : decode cX12_isBetween 26 = .ok (.lload 4, 2) := by decide +kernel
theorem dX12_isBetween_28 : decode cX12_isBetween 28 = .ok (.lload 6, 2) := by decide +kernel
theorem dX12_isBetween_30 : decode cX12_isBetween 30 = .ok (.invokestatic 644, 3) := by decide +kernel
theorem dX12_isBetween_33 : decode cX12_isBetween 33 = .ok (.lstore 16, 2) := by decide +kernel
theorem dX12_isBetween_35 : decode cX12_isBetween 35 = .ok (.lload 12, 2) := by decide +kernel
theorem dX12_isBetween_37 : decode cX12_isBetween 37 = .ok (.lconst 0, 1) := by decide +kernel
theorem dX12_isBetween_38 : decode cX12_isBetween 38 = .ok (.lcmp, 1) := by decide +kernel
theorem dX12_isBetween_39 : decode cX12_isBetween 39 = .ok (.ifCond .le 23, 3) := by decide +kernel
theorem dX12_isBetween_42 : decode cX12_isBetween 42 = .ok (.lload 14, 2) := by decide +kernel
theorem dX12_isBetween_44 : decode cX12_isBetween 44 = .ok (.lconst 0, 1) := by decide +kernel
theorem dX12_isBetween_45 : decode cX12_isBetween 45 = .ok (.lcmp, 1) := by decide +kernel
theorem dX12_isBetween_46 : decode cX12_isBetween 46 = .ok (.ifCond .le 14, 3) := by decide +kernel
theorem dX12_isBetween_49 : decode cX12_isBetween 49 = .ok (.lload 16, 2) := by decide +kernel
theorem dX12_isBetween_51 : decode cX12_isBetween 51 = .ok (.lconst 0, 1) := by decide +kernel
theorem dX12_isBetween_52 : decode cX12_isBetween 52 = .ok (.lcmp, 1) := by decide +kernel
theorem dX12_isBetween_53 : decode cX12_isBetween 53 = .ok (.ifCond .le 7, 3) := by decide +kernel
theorem dX12_isBetween_56 : decode cX12_isBetween 56 = .ok (.iconst 1, 1) := by decide +kernel
theorem dX12_isBetween_57 : decode cX12_isBetween 57 = .ok (.goto 4, 3) := by decide +kernel
theorem dX12_isBetween_60 : decode cX12_isBetween 60 = .ok (.iconst 0, 1) := by decide +kernel
theorem dX12_isBetween_61 : decode cX12_isBetween 61 = .ok (.ireturn, 1) := by decide +kernel
theorem dX12_isBetween_62 : decode cX12_isBetween 62 = .ok (.lload 12, 2) := by decide +kernel
theorem dX12_isBetween_64 : decode cX12_isBetween 64 = .ok (.lconst 0, 1) := by decide +kernel
theorem dX12_isBetween_65 : decode cX12_isBetween 65 = .ok (.lcmp, 1) := by decide +kernel
theorem dX12_isBetween_66 : decode cX12_isBetween 66 = .ok (.ifCond .ne 30, 3) := by decide +kernel
theorem dX12_isBetween_69 : decode cX12_isBetween 69 = .ok (.lload_n 0, 1) := by decide +kernel
theorem dX12_isBetween_70 : decode cX12_isBetween 70 = .ok (.lload 4, 2) := by decide +kernel
theorem dX12_isBetween_72 : decode cX12_isBetween 72 = .ok (.lmul, 1) := by decide +kernel
theorem dX12_isBetween_73 : decode cX12_isBetween 73 = .ok (.lload_n 2, 1) := by decide +kernel
theorem dX12_isBetween_74 : decode cX12_isBetween 74 = .ok (.lload 6, 2) := by decide +kernel
theorem dX12_isBetween_76 : decode cX12_isBetween 76 = .ok (.lmul, 1) := by decide +kernel
theorem dX12_isBetween_77 : decode cX12_isBetween 77 = .ok (.ladd, 1) := by decide +kernel
theorem dX12_isBetween_78 : decode cX12_isBetween 78 = .ok (.lconst 0, 1) := by decide +kernel
theorem dX12_isBetween_79 : decode cX12_isBetween 79 = .ok (.lcmp, 1) := by decide +kernel
theorem dX12_isBetween_80 : decode cX12_isBetween 80 = .ok (.ifCond .ge 14, 3) := by decide +kernel
theorem dX12_isBetween_83 : decode cX12_isBetween 83 = .ok (.lload 14, 2) := by decide +kernel
theorem dX12_isBetween_85 : decode cX12_isBetween 85 = .ok (.lconst 0, 1) := by decide +kernel
theorem dX12_isBetween_86 : decode cX12_isBetween 86 = .ok (.lcmp, 1) := by decide +kernel
theorem dX12_isBetween_87 : decode cX12_isBetween 87 = .ok (.ifCond .le 7, 3) := by decide +kernel
theorem dX12_isBetween_90 : decode cX12_isBetween 90 = .ok (.iconst 1, 1) := by decide +kernel
theorem dX12_isBetween_91 : decode cX12_isBetween 91 = .ok (.goto 4, 3) := by decide +kernel
theorem dX12_isBetween_94 : decode cX12_isBetween 94 = .ok (.iconst 0, 1) := by decide +kernel
theorem dX12_isBetween_95 : decode cX12_isBetween 95 = .ok (.ireturn, 1) := by decide +kernel
theorem dX12_isBetween_96 : decode cX12_isBetween 96 = .ok (.lload 14, 2) := by decide +kernel
theorem dX12_isBetween_98 : decode cX12_isBetween 98 = .ok (.lconst 0, 1) := by decide +kernel
theorem dX12_isBetween_99 : decode cX12_isBetween 99 = .ok (.lcmp, 1) := by decide +kernel
theorem dX12_isBetween_100 : decode cX12_isBetween 100 = .ok (.ifCond .gt 10, 3) := by decide +kernel
theorem dX12_isBetween_103 : decode cX12_isBetween 103 = .ok (.lload 16, 2) := by decide +kernel
theorem dX12_isBetween_105 : decode cX12_isBetween 105 = .ok (.lconst 0, 1) := by decide +kernel
theorem dX12_isBetween_106 : decode cX12_isBetween 106 = .ok (.lcmp, 1) := by decide +kernel
theorem dX12_isBetween_107 : decode cX12_isBetween 107 = .ok (.ifCond .le 7, 3) := by decide +kernel
theorem dX12_isBetween_110 : decode cX12_isBetween 110 = .ok (.iconst 1, 1) := by decide +kernel
theorem dX12_isBetween_111 : decode cX12_isBetween 111 = .ok (.goto 4, 3) := by decide +kernel
theorem dX12_isBetween_114 : decode cX12_isBetween 114 = .ok (.iconst 0, 1) := by decide +kernel
theorem dX12_isBetween_115 : decode cX12_isBetween 115 = .ok (.ireturn, 1) := by decide +kernel
theorem dX12_isAhead_0 : decode cX12_isAhead 0 = .ok (.lload_n 0, 1) := by decide +kernel
theorem dX12_isAhead_1 : decode cX12_isAhead 1 = .ok (.lload_n 2, 1) := by decide +kernel
theorem dX12_isAhead_2 : decode cX12_isAhead 2 = .ok (.lload 4, 2) := by decide +kernel
theorem dX12_isAhead_4 : decode cX12_isAhead 4 = .ok (.lload 6, 2) := by decide +kernel
theorem dX12_isAhead_6 : decode cX12_isAhead 6 = .ok (.invokestatic 644, 3) := by decide +kernel
theorem dX12_isAhead_9 : decode cX12_isAhead 9 = .ok (.lstore 12, 2) := by decide +kernel
theorem dX12_isAhead_11 : decode cX12_isAhead 11 = .ok (.lload_n 0, 1) := by decide +kernel
theorem dX12_isAhead_12 : decode cX12_isAhead 12 = .ok (.lload_n 2, 1) := by decide +kernel
theorem dX12_isAhead_13 : decode cX12_isAhead 13 = .ok (.lload 8, 2) := by decide +kernel
theorem dX12_isAhead_15 : decode cX12_isAhead 15 = .ok (.lload 10, 2) := by decide +kernel
theorem dX12_isAhead_17 : decode cX12_isAhead 17 = .ok (.invokestatic 644, 3) := by decide +kernel
theorem dX12_isAhead_20 : decode cX12_isAhead 20 = .ok (.lstore 14, 2) := by decide +kernel
theorem dX12_isAhead_22 : decode cX12_isAhead 22 = .ok (.lload 12, 2) := by decide +kernel
theorem dX12_isAhead_24 : decode cX12_isAhead 24 = .ok (.lconst 0, 1) := by decide +kernel
theorem dX12_isAhead_25 : decode cX12_isAhead 25 = .ok (.lcmp, 1) := by decide +kernel
theorem dX12_isAhead_26 : decode cX12_isAhead 26 = .ok (.ifCond .ge 7, 3) := by decide +kernel
theorem dX12_isAhead_29 : decode cX12_isAhead 29 = .ok (.iconst 0, 1) := by decide +kernel
theorem dX12_isAhead_30 : decode cX12_isAhead 30 = .ok (.goto 15, 3) := by decide +kernel
theorem dX12_isAhead_33 : decode cX12_isAhead 33 = .ok (.lload 12, 2) := by decide +kernel
theorem dX12_isAhead_35 : decode cX12_isAhead 35 = .ok (.lconst 0, 1) := by decide +kernel
theorem dX12_isAhead_36 : decode cX12_isAhead 36 = .ok (.lcmp, 1) := by decide +kernel
theorem dX12_isAhead_37 : decode cX12_isAhead 37 = .ok (.ifCond .ne 7, 3) := by decide +kernel
theorem dX12_isAhead_40 : decode cX12_isAhead 40 = .ok (.iconst 1, 1) := by decide +kernel
theorem dX12_isAhead_41 : decode cX12_isAhead 41 = .ok (.goto 4, 3) := by decide +kernel
theorem dX12_isAhead_44 : decode cX12_isAhead 44 = .ok (.iconst 2, 1) := by decide +kernel
theorem dX12_isAhead_45 : decode cX12_isAhead 45 = .ok (.istore 16, 2) := by decide +kernel
theorem dX12_isAhead_47 : decode cX12_isAhead 47 = .ok (.lload 14, 2) := by decide +kernel
theorem dX12_isAhead_49 : decode cX12_isAhead 49 = .ok (.lconst 0, 1) := by decide +kernel
theorem dX12_isAhead_50 : decode cX12_isAhead 50 = .ok (.lcmp, 1) := by decide +kernel
theorem dX12_isAhead_51 : decode cX12_isAhead 51 = .ok (.ifCond .ge 7, 3) := by decide +kernel
theorem dX12_isAhead_54 : decode cX12_isAhead 54 = .ok (.iconst 0, 1) := by decide +kernel
theorem dX12_isAhead_55 : decode cX12_isAhead 55 = .ok (.goto 15, 3) := by decide +kernel
theorem dX12_isAhead_58 : decode cX12_isAhead 58 = .ok (.lload 14, 2) := by decide +kernel
theorem dX12_isAhead_60 : decode cX12_isAhead 60 = .ok (.lconst 0, 1) := by decide +kernel
theorem dX12_isAhead_61 : decode cX12_isAhead 61 = .ok (.lcmp, 1) := by decide +kernel
theorem dX12_isAhead_62 : decode cX12_isAhead 62 = .ok (.ifCond .ne 7, 3) := by decide +kernel
theorem dX12_isAhead_65 : decode cX12_isAhead 65 = .ok (.iconst 1, 1) := by decide +kernel
theorem dX12_isAhead_66 : decode cX12_isAhead 66 = .ok (.goto 4, 3) := by decide +kernel
theorem dX12_isAhead_69 : decode cX12_isAhead 69 = .ok (.iconst 2, 1) := by decide +kernel
theorem dX12_isAhead_70 : decode cX12_isAhead 70 = .ok (.istore 17, 2) := by decide +kernel
theorem dX12_isAhead_72 : decode cX12_isAhead 72 = .ok (.iload 16, 2) := by decide +kernel
theorem dX12_isAhead_74 : decode cX12_isAhead 74 = .ok (.iload 17, 2) := by decide +kernel
theorem dX12_isAhead_76 : decode cX12_isAhead 76 = .ok (.if_icmp .lt 26, 3) := by decide +kernel
theorem dX12_isAhead_79 : decode cX12_isAhead 79 = .ok (.iload 16, 2) := by decide +kernel
theorem dX12_isAhead_81 : decode cX12_isAhead 81 = .ok (.iload 17, 2) := by decide +kernel
theorem dX12_isAhead_83 : decode cX12_isAhead 83 = .ok (.if_icmp .ne 23, 3) := by decide +kernel
theorem dX12_isAhead_86 : decode cX12_isAhead 86 = .ok (.lload 4, 2) := by decide +kernel
theorem dX12_isAhead_88 : decode cX12_isAhead 88 = .ok (.lload 6, 2) := by decide +kernel
theorem dX12_isAhead_90 : decode cX12_isAhead 90 = .ok (.lload 8, 2) := by decide +kernel
theorem dX12_isAhead_92 : decode cX12_isAhead 92 = .ok (.lload 10, 2) := by decide +kernel
theorem dX12_isAhead_94 : decode cX12_isAhead 94 = .ok (.invokestatic 644, 3) := by decide +kernel
theorem dX12_isAhead_97 : decode cX12_isAhead 97 = .ok (.lconst 0, 1) := by decide +kernel
theorem dX12_isAhead_98 : decode cX12_isAhead 98 = .ok (.lcmp, 1) := by decide +kernel
theorem dX12_isAhead_99 : decode cX12_isAhead 99 = .ok (.ifCond .ge 7, 3) := by decide +kernel
theorem dX12_isAhead_102 : decode cX12_isAhead 102 = .ok (.iconst 1, 1) := by decide +kernel
theorem dX12_isAhead_103 : decode cX12_isAhead 103 = .ok (.goto 4, 3) := by decide +kernel
theorem dX12_isAhead_106 : decode cX12_isAhead 106 = .ok (.iconst 0, 1) := by decide +kernel
theorem dX12_isAhead_107 : decode cX12_isAhead 107 = .ok (.ireturn, 1) := by decide +kernel
theorem dX12_typeOfKind_0 : decode cX12_typeOfKind 0 = .ok (.iload_n 0, 1) := by decide +kernel
theorem dX12_typeOfKind_1 : decode cX12_typeOfKind 1 = .ok (.bipush 7, 2) := by decide +kernel
theorem dX12_typeOfKind_3 : decode cX12_typeOfKind 3 = .ok (.if_icmp .ne 7, 3) := by decide +kernel
theorem dX12_typeOfKind_6 : decode cX12_typeOfKind 6 = .ok (.iconst (-1), 1) := by decide +kernel
theorem dX12_typeOfKind_7 : decode cX12_typeOfKind 7 = .ok (.goto 8, 3) := by decide +kernel
theorem dX12_typeOfKind_10 : decode cX12_typeOfKind 10 = .ok (.iload_n 0, 1) := by decide +kernel
theorem dX12_typeOfKind_11 : decode cX12_typeOfKind 11 = .ok (.iconst 1, 1) := by decide +kernel
theorem dX12_typeOfKind_12 : decode cX12_typeOfKind 12 = .ok (.isub, 1) := by decide +kernel
theorem dX12_typeOfKind_13 : decode cX12_typeOfKind 13 = .ok (.iconst 3, 1) := by decide +kernel
theorem dX12_typeOfKind_14 : decode cX12_typeOfKind 14 = .ok (.irem, 1) := by decide +kernel
theorem dX12_typeOfKind_15 : decode cX12_typeOfKind 15 = .ok (.ireturn, 1) := by decide +kernel
theorem dX2_triangleKey_0 : decode cX2_triangleKey 0 = .ok (.lload_n 2, 1) := by decide +kernel
theorem dX2_triangleKey_1 : decode cX2_triangleKey 1 = .ok (.lload_n 0, 1) := by decide +kernel
theorem dX2_triangleKey_2 : decode cX2_triangleKey 2 = .ok (.lcmp, 1) := by decide +kernel
theorem dX2_triangleKey_3 : decode cX2_triangleKey 3 = .ok (.ifCond .ge 18, 3) := by decide +kernel
theorem dX2_triangleKey_6 : decode cX2_triangleKey 6 = .ok (.lload_n 2, 1) := by decide +kernel
theorem dX2_triangleKey_7 : decode cX2_triangleKey 7 = .ok (.lload 4, 2) := by decide +kernel
theorem dX2_triangleKey_9 : decode cX2_triangleKey 9 = .ok (.lcmp, 1) := by decide +kernel
theorem dX2_triangleKey_10 : decode cX2_triangleKey 10 = .ok (.ifCond .ge 11, 3) := by decide +kernel
theorem dX2_triangleKey_13 : decode cX2_triangleKey 13 = .ok (.lload_n 2, 1) := by decide +kernel
theorem dX2_triangleKey_14 : decode cX2_triangleKey 14 = .ok (.lload 4, 2) := by decide +kernel
theorem dX2_triangleKey_16 : decode cX2_triangleKey 16 = .ok (.lload_n 0, 1) := by decide +kernel
theorem dX2_triangleKey_17 : decode cX2_triangleKey 17 = .ok (.invokestatic 180, 3) := by decide +kernel
theorem dX2_triangleKey_20 : decode cX2_triangleKey 20 = .ok (.lreturn, 1) := by decide +kernel
theorem dX2_triangleKey_21 : decode cX2_triangleKey 21 = .ok (.lload 4, 2) := by decide +kernel
theorem dX2_triangleKey_23 : decode cX2_triangleKey 23 = .ok (.lload_n 0, 1) := by decide +kernel
theorem dX2_triangleKey_24 : decode cX2_triangleKey 24 = .ok (.lcmp, 1) := by decide +kernel
theorem dX2_triangleKey_25 : decode cX2_triangleKey 25 = .ok (.ifCond .ge 20, 3) := by decide +kernel
theorem dX2_triangleKey_28 : decode cX2_triangleKey 28 = .ok (.lload 4, 2) := by decide +kernel
theorem dX2_triangleKey_30 : decode cX2_triangleKey 30 = .ok (.lload_n 2, 1) := by decide +kernel
theorem dX2_triangleKey_31 : decode cX2_triangleKey 31 = .ok (.lcmp, 1) := by decide +kernel
theorem dX2_triangleKey_32 : decode cX2_triangleKey 32 = .ok (.ifCond .ge 13, 3) := by decide +kernel
theorem dX2_triangleKey_35 : decode cX2_triangleKey 35 = .ok (.lload 4, 2) := by decide +kernel
theorem dX2_triangleKey_37 : decode cX2_triangleKey 37 = .ok (.lload_n 0, 1) := by decide +kernel
theorem dX2_triangleKey_38 : decode cX2_triangleKey 38 = .ok (.lload_n 2, 1) := by decide +kernel
theorem dX2_triangleKey_39 : decode cX2_triangleKey 39 = .ok (.invokestatic 180, 3) := by decide +kernel
theorem dX2_triangleKey_42 : decode cX2_triangleKey 42 = .ok (.goto 10, 3) := by decide +kernel
theorem dX2_triangleKey_45 : decode cX2_triangleKey 45 = .ok (.lload_n 0, 1) := by decide +kernel
theorem dX2_triangleKey_46 : decode cX2_triangleKey 46 = .ok (.lload_n 2, 1) := by decide +kernel
theorem dX2_triangleKey_47 : decode cX2_triangleKey 47 = .ok (.lload 4, 2) := by decide +kernel
theorem dX2_triangleKey_49 : decode cX2_triangleKey 49 = .ok (.invokestatic 180, 3) := by decide +kernel
theorem dX2_triangleKey_52 : decode cX2_triangleKey 52 = .ok (.lreturn, 1) := by decide +kernel
abbrev M_X0_has : MRec := (yX0_has, cX0_has, 2, (some Jvm.ClassFile.FieldType.boolean), [])
theorem m_X0_has : en_M M_X0_has 1 := ⟨t_974, t_4, ⟨by decide +kernel, by decide +kernel⟩, by decide +kernel, by decide +kernel, by decide +kernel⟩
abbrev M_X0_isNoNumber : MRec := (yX0_isNoNumber, cX0_isNoNumber, 2, (some Jvm.ClassFile.FieldType.boolean), [])
theorem m_X0_isNoNumber : en_M M_X0_isNoNumber 1 := ⟨t_996, t_4, ⟨by decide +kernel, by decide +kernel⟩, by decide +kernel, by decide +kernel, by decide +kernel⟩
abbrev M_X2_triangleKeyFrom : MRec := (yX2_triangleKeyFrom, cX2_triangleKeyFrom, 6, (some Jvm.ClassFile.FieldType.long), [])
theorem m_X2_triangleKeyFrom : en_M M_X2_triangleKeyFrom 3 := ⟨t_2179, t_12, ⟨by decide +kernel, by decide +kernel⟩, by decide +kernel, by decide +kernel, by decide +kernel⟩
abbrev M_X6_isThere : MRec := (yX6_isThere, cX6_isThere, 1, (some Jvm.ClassFile.FieldType.boolean), [])
theorem m_X6_isThere : en_M M_X6_isThere 0 := ⟨t_1053, t_2, ⟨by decide +kernel, by decide +kernel⟩, by decide +kernel, by decide +kernel, by decide +kernel⟩
abbrev M_X6_hasRoomForPoint : MRec := (yX6_hasRoomForPoint, cX6_hasRoomForPoint, 1, (some Jvm.ClassFile.FieldType.boolean), [])
theorem m_X6_hasRoomForPoint : en_M M_X6_hasRoomForPoint 0 := ⟨t_907, t_2, ⟨by decide +kernel, by decide +kernel⟩, by decide +kernel, by decide +kernel, by decide +kernel⟩
abbrev M_X8_meetsPixel : MRec := (yX8_meetsPixel, cX8_meetsPixel, 8, (some Jvm.ClassFile.FieldType.boolean), [])
theorem m_X8_meetsPixel : en_M M_X8_meetsPixel 4 := ⟨t_1475, t_9, ⟨by decide +kernel, by decide +kernel⟩, by decide +kernel, by decide +kernel, by decide +kernel⟩
abbrev M_X9_isBlank : MRec := (yX9_isBlank, cX9_isBlank, 1, (some Jvm.ClassFile.FieldType.boolean), [])
theorem m_X9_isBlank : en_M M_X9_isBlank 1 := ⟨t_782, t_3, ⟨by decide +kernel, by decide +kernel⟩, by decide +kernel, by decide +kernel, by decide +kernel⟩
abbrev M_X9_isLetter : MRec := (yX9_isLetter, cX9_isLetter, 1, (some Jvm.ClassFile.FieldType.boolean), [])
theorem m_X9_isLetter : en_M M_X9_isLetter 1 := ⟨t_789, t_3, ⟨by decide +kernel, by decide +kernel⟩, by decide +kernel, by decide +kernel, by decide +kernel⟩
abbrev M_X9_isDigit : MRec := (yX9_isDigit, cX9_isDigit, 1, (some Jvm.ClassFile.FieldType.boolean), [])
theorem m_X9_isDigit : en_M M_X9_isDigit 1 := ⟨t_921, t_3, ⟨by decide +kernel, by decide +kernel⟩, by decide +kernel, by decide +kernel, by decide +kernel⟩
abbrev M_X9_beginsNumber : MRec := (yX9_beginsNumber, cX9_beginsNumber, 1, (some Jvm.ClassFile.FieldType.boolean), [])
theorem m_X9_beginsNumber : en_M M_X9_beginsNumber 1 := ⟨t_796, t_3, ⟨by decide +kernel, by decide +kernel⟩, by decide +kernel, by decide +kernel, by decide +kernel⟩
abbrev M_X9_isSign : MRec := (yX9_isSign, cX9_isSign, 1, (some Jvm.ClassFile.FieldType.boolean), [])
theorem m_X9_isSign : en_M M_X9_isSign 1 := ⟨t_914, t_3, ⟨by decide +kernel, by decide +kernel⟩, by decide +kernel, by decide +kernel, by decide +kernel⟩
abbrev M_X11_isBeyond : MRec := (yX11_isBeyond, cX11_isBeyond, 2, (some Jvm.ClassFile.FieldType.boolean), [])
theorem m_X11_isBeyond : en_M M_X11_isBeyond 2 := ⟨t_1387, t_1, ⟨by decide +kernel, by decide +kernel⟩, by decide +kernel, by decide +kernel, by decide +kernel⟩
abbrev M_X11_isNoSignPoint : MRec := (yX11_isNoSignPoint, cX11_isNoSignPoint, 1, (some Jvm.ClassFile.FieldType.boolean), [])
theorem m_X11_isNoSignPoint : en_M M_X11_isNoSignPoint 1 := ⟨t_2311, t_1, ⟨by decide +kernel, by decide +kernel⟩, by decide +kernel, by decide +kernel, by decide +kernel⟩
abbrev M_X11_isNoNumber : MRec := (yX11_isNoNumber, cX11_isNoNumber, 2, (some Jvm.ClassFile.FieldType.boolean), [])
theorem m_X11_isNoNumber : en_M M_X11_isNoNumber 1 := ⟨t_2314, t_1, ⟨by decide +kernel, by decide +kernel⟩, by decide +kernel, by decide +kernel, by decide +kernel⟩
abbrev M_X11_carryOf : MRec := (yX11_carryOf, cX11_carryOf, 4, (some Jvm.ClassFile.FieldType.int), [])
theorem m_X11_carryOf : en_M M_X11_carryOf 2 := ⟨t_1945, t_1, ⟨by decide +kernel, by decide +kernel⟩, by decide +kernel, by decide +kernel, by decide +kernel⟩
abbrev M_X11_highOf : MRec := (yX11_highOf, cX11_highOf, 18, (some Jvm.ClassFile.FieldType.long), [])
theorem m_X11_highOf : en_M M_X11_highOf 2 := ⟨t_1942, t_1, ⟨by decide +kernel, by decide +kernel⟩, by decide +kernel, by decide +kernel, by decide +kernel⟩
abbrev M_X11_keyOf : MRec := (yX11_keyOf, cX11_keyOf, 2, (some Jvm.ClassFile.FieldType.long), [])
theorem m_X11_keyOf : en_M M_X11_keyOf 2 := ⟨t_1427, t_1, ⟨by decide +kernel, by decide +kernel⟩, by decide +kernel, by decide +kernel, by decide +kernel⟩
abbrev M_X11_keyX : MRec := (yX11_keyX, cX11_keyX, 2, (some Jvm.ClassFile.FieldType.int), [])
theorem m_X11_keyX : en_M M_X11_keyX 1 := ⟨t_1455, t_1, ⟨by decide +kernel, by decide +kernel⟩, by decide +kernel, by decide +kernel, by decide +kernel⟩
abbrev M_X11_keyY : MRec := (yX11_keyY, cX11_keyY, 2, (some Jvm.ClassFile.FieldType.int), [])
theorem m_X11_keyY : en_M M_X11_keyY 1 := ⟨t_1458, t_1, ⟨by decide +kernel, by decide +kernel⟩, by decide +kernel, by decide +kernel, by decide +kernel⟩
abbrev M_X12_thrown : MRec := (yX12_thrown, cX12_thrown, 1, (some Jvm.ClassFile.FieldType.int), [])
theorem m_X12_thrown : en_M M_X12_thrown 0 := ⟨t_2800, t_14, ⟨by decide +kernel, by decide +kernel⟩, by decide +kernel, by decide +kernel, by decide +kernel⟩
abbrev M_X12_in : MRec := (yX12_in, cX12_in, 6, (some Jvm.ClassFile.FieldType.boolean), [])
theorem m_X12_in : en_M M_X12_in 3 := ⟨t_2820, t_14, ⟨by decide +kernel, by decide +kernel⟩, by decide +kernel, by decide +kernel, by decide +kernel⟩
abbrev M_X12_isSlot : MRec := (yX12_isSlot, cX12_isSlot, 1, (some Jvm.ClassFile.FieldType.boolean), [])
theorem m_X12_isSlot : en_M M_X12_isSlot 1 := ⟨t_2843, t_14, ⟨by decide +kernel, by decide +kernel⟩, by decide +kernel, by decide +kernel, by decide +kernel⟩
abbrev M_X12_isBlank : MRec := (yX12_isBlank, cX12_isBlank, 1, (some Jvm.ClassFile.FieldType.boolean), [])
theorem m_X12_isBlank : en_M M_X12_isBlank 1 := ⟨t_2866, t_14, ⟨by decide +kernel, by decide +kernel⟩, by decide +kernel, by decide +kernel, by decide +kernel⟩
abbrev M_X12_isLetter : MRec := (yX12_isLetter, cX12_isLetter, 1, (some Jvm.ClassFile.FieldType.boolean), [])
theorem m_X12_isLetter : en_M M_X12_isLetter 1 := ⟨t_2869, t_14, ⟨by decide +kernel, by decide +kernel⟩, by decide +kernel, by decide +kernel, by decide +kernel⟩
abbrev M_X12_isDigit : MRec := (yX12_isDigit, cX12_isDigit, 1, (some Jvm.ClassFile.FieldType.boolean), [])
theorem m_X12_isDigit : en_M M_X12_isDigit 1 := ⟨t_2880, t_14, ⟨by decide +kernel, by decide +kernel⟩, by decide +kernel, by decide +kernel, by decide +kernel⟩
abbrev M_X12_isSign : MRec := (yX12_isSign, cX12_isSign, 1, (some Jvm.ClassFile.FieldType.boolean), [])
theorem m_X12_isSign : en_M M_X12_isSign 1 := ⟨t_2883, t_14, ⟨by decide +kernel, by decide +kernel⟩, by decide +kernel, by decide +kernel, by decide +kernel⟩
abbrev M_X12_large : MRec := (yX12_large, cX12_large, 1, (some Jvm.ClassFile.FieldType.int), [])
theorem m_X12_large : en_M M_X12_large 1 := ⟨t_2897, t_14, ⟨by decide +kernel, by decide +kernel⟩, by decide +kernel, by decide +kernel, by decide +kernel⟩
abbrev M_X12_there : MRec := (yX12_there, cX12_there, 2, (some Jvm.ClassFile.FieldType.boolean), [])
theorem m_X12_there : en_M M_X12_there 1 := ⟨t_2977, t_14, ⟨by decide +kernel, by decide +kernel⟩, by decide +kernel, by decide +kernel, by decide +kernel⟩
abbrev M_X12_isNoNumber : MRec := (yX12_isNoNumber, cX12_isNoNumber, 2, (some Jvm.ClassFile.FieldType.boolean), [])
theorem m_X12_isNoNumber : en_M M_X12_isNoNumber 1 := ⟨t_2993, t_14, ⟨by decide +kernel, by decide +kernel⟩, by decide +kernel, by decide +kernel, by decide +kernel⟩
abbrev M_X12_isFar : MRec := (yX12_isFar, cX12_isFar, 2, (some Jvm.ClassFile.FieldType.boolean), [])
theorem m_X12_isFar : en_M M_X12_isFar 1 := ⟨t_3135, t_14, ⟨by decide +kernel, by decide +kernel⟩, by decide +kernel, by decide +kernel, by decide +kernel⟩
abbrev M_X12_gap : MRec := (yX12_gap, cX12_gap, 6, (some Jvm.ClassFile.FieldType.long), [])
theorem m_X12_gap : en_M M_X12_gap 3 := ⟨t_3145, t_14, ⟨by decide +kernel, by decide +kernel⟩, by decide +kernel, by decide +kernel, by decide +kernel⟩
abbrev M_X12_isPoint : MRec := (yX12_isPoint, cX12_isPoint, 1, (some Jvm.ClassFile.FieldType.boolean), [])
theorem m_X12_isPoint : en_M M_X12_isPoint 1 := ⟨t_3156, t_14, ⟨by decide +kernel, by decide +kernel⟩, by decide +kernel, by decide +kernel, by decide +kernel⟩
abbrev M_X12_cross : MRec := (yX12_cross, cX12_cross, 8, (some Jvm.ClassFile.FieldType.long), [])
theorem m_X12_cross : en_M M_X12_cross 4 := ⟨t_3267, t_14, ⟨by decide +kernel, by decide +kernel⟩, by decide +kernel, by decide +kernel, by decide +kernel⟩
abbrev M_X12_signOf : MRec := (yX12_signOf, cX12_signOf, 2, (some Jvm.ClassFile.FieldType.int), [])
theorem m_X12_signOf : en_M M_X12_signOf 1 := ⟨t_3270, t_14, ⟨by decide +kernel, by decide +kernel⟩, by decide +kernel, by decide +kernel, by decide +kernel⟩
abbrev M_X12_turn : MRec := (yX12_turn, cX12_turn, 12, (some Jvm.ClassFile.FieldType.int), [])
theorem m_X12_turn : en_M M_X12_turn 6 := ⟨t_3264, t_14, ⟨by decide +kernel, by decide +kernel⟩, by decide +kernel, by decide +kernel, by decide +kernel⟩
abbrev M_X12_isBefore : MRec := (yX12_isBefore, cX12_isBefore, 8, (some Jvm.ClassFile.FieldType.boolean), [])
theorem m_X12_isBefore : en_M M_X12_isBefore 4 := ⟨t_3277, t_14, ⟨by decide +kernel, by decide +kernel⟩, by decide +kernel, by decide +kernel, by decide +kernel⟩
abbrev M_X12_isBetween : MRec := (yX12_isBetween, cX12_isBetween, 18, (some Jvm.ClassFile.FieldType.boolean), [])
theorem m_X12_isBetween : en_M M_X12_isBetween 6 := ⟨t_3296, t_14, ⟨by decide +kernel, by decide +kernel⟩, by decide +kernel, by decide +kernel, by decide +kernel⟩
abbrev M_X12_isAhead : MRec := (yX12_isAhead, cX12_isAhead, 18, (some Jvm.ClassFile.FieldType.boolean), [])
theorem m_X12_isAhead : en_M M_X12_isAhead 6 := ⟨t_3453, t_14, ⟨by decide +kernel, by decide +kernel⟩, by decide +kernel, by decide +kernel, by decide +kernel⟩
abbrev M_X12_typeOfKind : MRec := (yX12_typeOfKind, cX12_typeOfKind, 1, (some Jvm.ClassFile.FieldType.int), [])
theorem m_X12_typeOfKind : en_M M_X12_typeOfKind 1 := ⟨t_3504, t_14, ⟨by decide +kernel, by decide +kernel⟩, by decide +kernel, by decide +kernel, by decide +kernel⟩
abbrev M_X2_triangleKey : MRec := (yX2_triangleKey, cX2_triangleKey, 6, (some Jvm.ClassFile.FieldType.long), [])
theorem m_X2_triangleKey : en_M M_X2_triangleKey 3 := ⟨t_2176, t_12, ⟨by decide +kernel, by decide +kernel⟩, by decide +kernel, by decide +kernel, by decide +kernel⟩
end PRR
