theorem dX11_sortRow_0 : decode cX11_sortRow 0 = .ok (.iload_n 1, 1) := by decide +kernel
theorem dX11_sortRow_1 : decode cX11_sortRow 1 = .ok (.iconst 2, 1) := by decide +kernel
theorem dX11_sortRow_2 : decode cX11_sortRow 2 = .ok (.idiv, 1) := by decide +kernel
theorem dX11_sortRow_3 : decode cX11_sortRow 3 = .ok (.iconst 1, 1) := by decide +kernel
theorem dX11_sortRow_4 : decode cX11_sortRow 4 = .ok (.isub, 1) := by decide +kernel
theorem dX11_sortRow_5 : decode cX11_sortRow 5 = .ok (.istore_n 2, 1) := by decide +kernel
theorem dX11_sortRow_6 : decode cX11_sortRow 6 = .ok (.iload_n 2, 1) := by decide +kernel
theorem dX11_sortRow_7 : decode cX11_sortRow 7 = .ok (.ifCond .lt 15, 3) := by decide +kernel
theorem dX11_sortRow_10 : decode cX11_sortRow 10 = .ok (.aload_n 0, 1) := by decide +kernel
theorem dX11_sortRow_11 : decode cX11_sortRow 11 = .ok (.iload_n 2, 1) := by decide +kernel
theorem dX11_sortRow_12 : decode cX11_sortRow 12 = .ok (.iload_n 1, 1) := by decide +kernel
theorem dX11_sortRow_13 : decode cX11_sortRow 13 = .ok (.invokestatic 371, 3) := by decide +kernel
theorem dX11_sortRow_16 : decode cX11_sortRow 16 = .ok (.iinc 2 (-1), 3) := by decide +kernel
theorem dX11_sortRow_19 : decode cX11_sortRow 19 = .ok (.goto (-13), 3) := by decide +kernel
theorem dX11_sortRow_22 : decode cX11_sortRow 22 = .ok (.iload_n 1, 1) := by decide +kernel
theorem dX11_sortRow_23 : decode cX11_sortRow 23 = .ok (.iconst 1, 1) := by decide +kernel
theorem dX11_sortRow_24 : decode cX11_sortRow 24 = .ok (.isub, 1) := by decide +kernel
theorem dX11_sortRow_25 : decode cX11_sortRow 25 = .ok (.istore_n 2, 1) := by decide +kernel
theorem dX11_sortRow_26 : decode cX11_sortRow 26 = .ok (.iload_n 2, 1) := by decide +kernel
theorem dX11_sortRow_27 : decode cX11_sortRow 27 = .ok (.ifCond .le 29, 3) := by decide +kernel
theorem dX11_sortRow_30 : decode cX11_sortRow 30 = .ok (.aload_n 0, 1) := by decide +kernel
theorem dX11_sortRow_31 : decode cX11_sortRow 31 = .ok (.iconst 0, 1) := by decide +kernel
theorem dX11_sortRow_32 : decode cX11_sortRow 32 = .ok (.laload, 1) := by decide +kernel
theorem dX11_sortRow_33 : decode cX11_sortRow 33 = .ok (.lstore_n 3, 1) := by decide +kernel
theorem dX11_sortRow_34 : decode cX11_sortRow 34 = .ok (.aload_n 0, 1) := by decide +kernel
theorem dX11_sortRow_35 : decode cX11_sortRow 35 = .ok (.iconst 0, 1) := by decide +kernel
theorem dX11_sortRow_36 : decode cX11_sortRow 36 = .ok (.aload_n 0, 1) := by decide +kernel
theorem dX11_sortRow_37 : decode cX11_sortRow 37 = .ok (.iload_n 2, 1) := by decide +kernel
theorem dX11_sortRow_38 : decode cX11_sortRow 38 = .ok (.laload, 1) := by decide +kernel
theorem dX11_sortRow_39 : decode cX11_sortRow 39 = .ok (.lastore, 1) := by decide +kernel
theorem dX11_sortRow_40 : decode cX11_sortRow 40 = .ok (.aload_n 0, 1) := by decide +kernel
theorem dX11_sortRow_41 : decode cX11_sortRow 41 = .ok (.iload_n 2, 1) := by decide +kernel
theorem dX11_sortRow_42 : decode cX11_sortRow 42 = .ok (.lload_n 3, 1) := by decide +kernel
theorem dX11_sortRow_43 : decode cX11_sortRow 43 = .ok (.lastore, 1) := by decide +kernel
theorem dX11_sortRow_44 : decode cX11_sortRow 44 = .ok (.aload_n 0, 1) := by decide +kernel
theorem dX11_sortRow_45 : decode cX11_sortRow 45 = .ok (.iconst 0, 1) := by decide +kernel
theorem dX11_sortRow_46 : decode cX11_sortRow 46 = .ok (.iload_n 2, 1) := by decide +kernel
theorem dX11_sortRow_47 : decode cX11_sortRow 47 = .ok (.invokestatic 371, 3) := by decide +kernel
theorem dX11_sortRow_50 : decode cX11_sortRow 50 = .ok (.iinc 2 (-1), 3) := by decide +kernel
theorem dX11_sortRow_53 : decode cX11_sortRow 53 = .ok (.goto (-27), 3) := by decide +kernel
theorem dX11_sortRow_56 : decode cX11_sortRow 56 = .ok (.return_, 1) := by decide +kernel
theorem dX11_sift_0 : decode cX11_sift 0 = .ok (.aload_n 0, 1) := by decide +kernel
theorem dX11_sift_1 : decode cX11_sift 1 = .ok (.iload_n 1, 1) := by decide +kernel
theorem dX11_sift_2 : decode cX11_sift 2 = .ok (.laload, 1) := by decide +kernel
theorem dX11_sift_3 : decode cX11_sift 3 = .ok (.lstore_n 3, 1) := by decide +kernel
theorem dX11_sift_4 : decode cX11_sift 4 = .ok (.iload_n 1, 1) := by decide +kernel
theorem dX11_sift_5 : decode cX11_sift 5 = .ok (.istore 5, 2) := by decide +kernel
theorem dX11_sift_7 : decode cX11_sift 7 = .ok (.iconst 2, 1) := by decide +kernel
theorem dX11_sift_8 : decode cX11_sift 8 = .ok (.iload 5, 2) := by decide +kernel
theorem dX11_sift_10 : decode cX11_sift 10 = .ok (.imul, 1) := by decide +kernel
theorem dX11_sift_11 : decode cX11_sift 11 = .ok (.iconst 1, 1) := by decide +kernel
theorem dX11_sift_12 : decode cX11_sift 12 = .ok (.iadd, 1) := by decide +kernel
theorem dX11_sift_13 : decode cX11_sift 13 = .ok (.istore 6, 2) := by decide +kernel
theorem dX11_sift_15 : decode cX11_sift 15 = .ok (.iload 6, 2) := by decide +kernel
theorem dX11_sift_17 : decode cX11_sift 17 = .ok (.iload_n 2, 1) := by decide +kernel
theorem dX11_sift_18 : decode cX11_sift 18 = .ok (.if_icmp .ge 63, 3) := by decide +kernel
theorem dX11_sift_21 : decode cX11_sift 21 = .ok (.iload 6, 2) := by decide +kernel
theorem dX11_sift_23 : decode cX11_sift 23 = .ok (.iconst 1, 1) := by decide +kernel
theorem dX11_sift_24 : decode cX11_sift 24 = .ok (.iadd, 1) := by decide +kernel
theorem dX11_sift_25 : decode cX11_sift 25 = .ok (.iload_n 2, 1) := by decide +kernel
theorem dX11_sift_26 : decode cX11_sift 26 = .ok (.if_icmp .ge 20, 3) := by decide +kernel
theorem dX11_sift_29 : decode cX11_sift 29 = .ok (.aload_n 0, 1) := by decide +kernel
theorem dX11_sift_30 : decode cX11_sift 30 = .ok (.iload 6, 2) := by decide +kernel
theorem dX11_sift_32 : decode cX11_sift 32 = .ok (.iconst 1, 1) := by decide +kernel
theorem dX11_sift_33 : decode cX11_sift 33 = .ok (.iadd, 1) := by decide +kernel
theorem dX11_sift_34 : decode cX11_sift 34 = .ok (.laload, 1) := by decide +kernel
theorem dX11_sift_35 : decode cX11_sift 35 = .ok (.aload_n 0, 1) := by decide +kernel
theorem dX11_sift_36 : decode cX11_sift 36 = .ok (.iload 6, 2) := by decide +kernel
theorem dX11_sift_38 : decode cX11_sift 38 = .ok (.laload, 1) := by decide +kernel
theorem dX11_sift_39 : decode cX11_sift 39 = .ok (.lcmp, 1) := by decide +kernel
theorem dX11_sift_40 : decode cX11_sift 40 = .ok (.ifCond .le 6, 3) := by decide +kernel
theorem dX11_sift_43 : decode cX11_sift 43 = .ok (.iinc 6 1, 3) := by decide +kernel
theorem dX11_sift_46 : decode cX11_sift 46 = .ok (.aload_n 0, 1) := by decide +kernel
theorem dX11_sift_47 : decode cX11_sift 47 = .ok (.iload 6, 2) := by decide +kernel
theorem dX11_sift_49 : decode cX11_sift 49 = .ok (.laload, 1) := by decide +kernel
theorem dX11_sift_50 : decode cX11_sift 50 = .ok (.lload_n 3, 1) := by decide +kernel
theorem dX11_sift_51 : decode cX11_sift 51 = .ok (.lcmp, 1) := by decide +kernel
theorem dX11_sift_52 : decode cX11_sift 52 = .ok (.ifCond .gt 6, 3) := by decide +kernel
theorem dX11_sift_55 : decode cX11_sift 55 = .ok (.goto 26, 3) := by decide +kernel
theorem dX11_sift_58 : decode cX11_sift 58 = .ok (.aload_n 0, 1) := by decide +kernel
theorem dX11_sift_59 : decode cX11_sift 59 = .ok (.iload 5, 2) := by decide +kernel
theorem dX11_sift_61 : decode cX11_sift 61 = .ok (.aload_n 0, 1) := by decide +kernel
theorem dX11_sift_62 : decode cX11_sift 62 = .ok (.iload 6, 2) := by decide +kernel
theorem dX11_sift_64 : decode cX11_sift 64 = .ok (.laload, 1) := by decide +kernel
theorem dX11_sift_65 : decode cX11_sift 65 = .ok (.lastore, 1) := by decide +kernel
theorem dX11_sift_66 : decode cX11_sift 66 = .ok (.iload 6, 2) := by decide +kernel
theorem dX11_sift_68 : decode cX11_sift 68 = .ok (.istore 5, 2) := by decide +kernel
theorem dX11_sift_70 : decode cX11_sift 70 = .ok (.iconst 2, 1) := by decide +kernel
theorem dX11_sift_71 : decode cX11_sift 71 = .ok (.iload 5, 2) := by decide +kernel
theorem dX11_sift_73 : decode cX11_sift 73 = .ok (.imul, 1) := by decide +kernel
theorem dX11_sift_74 : decode cX11_sift 74 = .ok (.iconst 1, 1) := by decide +kernel
theorem dX11_sift_75 : decode cX11_sift 75 = .ok (.iadd, 1) := by decide +kernel
theorem dX11_sift_76 : decode cX11_sift 76 = .ok (.istore 6, 2) := by decide +kernel
theorem dX11_sift_78 : decode cX11_sift 78 = .ok (.goto (-63), 3) := by decide +kernel
theorem dX11_sift_81 : decode cX11_sift 81 = .ok (.aload_n 0, 1) := by decide +kernel
theorem dX11_sift_82 : decode cX11_sift 82 = .ok (.iload 5, 2) := by decide +kernel
theorem dX11_sift_84 : decode cX11_sift 84 = .ok (.lload_n 3, 1) := by decide +kernel
theorem dX11_sift_85 : decode cX11_sift 85 = .ok (.lastore, 1) := by decide +kernel
theorem dX11_sift_86 : decode cX11_sift 86 = .ok (.return_, 1) := by decide +kernel
theorem dX11_leaveEachOnce_0 : decode cX11_leaveEachOnce 0 = .ok (.iconst 0, 1) := by decide +kernel
theorem dX11_leaveEachOnce_1 : decode cX11_leaveEachOnce 1 = .ok (.istore_n 2, 1) := by decide +kernel
theorem dX11_leaveEachOnce_2 : decode cX11_leaveEachOnce 2 = .ok (.iconst 0, 1) := by decide +kernel
theorem dX11_leaveEachOnce_3 : decode cX11_leaveEachOnce 3 = .ok (.istore_n 3, 1) := by decide +kernel
theorem dX11_leaveEachOnce_4 : decode cX11_leaveEachOnce 4 = .ok (.iload_n 3, 1) := by decide +kernel
theorem dX11_leaveEachOnce_5 : decode cX11_leaveEachOnce 5 = .ok (.iload_n 1, 1) := by decide +kernel
theorem dX11_leaveEachOnce_6 : decode cX11_leaveEachOnce 6 = .ok (.if_icmp .ge 34, 3) := by decide +kernel
theorem dX11_leaveEachOnce_9 : decode cX11_leaveEachOnce 9 = .ok (.iload_n 2, 1) := by decide +kernel
theorem dX11_leaveEachOnce_10 : decode cX11_leaveEachOnce 10 = .ok (.ifCond .eq 15, 3) := by decide +kernel
theorem dX11_leaveEachOnce_13 : decode cX11_leaveEachOnce 13 = .ok (.aload_n 0, 1) := by decide +kernel
theorem dX11_leaveEachOnce_14 : decode cX11_leaveEachOnce 14 = .ok (.iload_n 2, 1) := by decide +kernel
theorem dX11_leaveEachOnce_15 : decode cX11_leaveEachOnce 15 = .ok (.iconst 1, 1) := by decide +kernel
theorem dX11_leaveEachOnce_16 : decode cX11_leaveEachOnce 16 = .ok (.isub, 1) := by decide +kernel
theorem dX11_leaveEachOnce_17 : decode cX11_leaveEachOnce 17 = .ok (.laload, 1) := by decide +kernel
theorem dX11_leaveEachOnce_18 : decode cX11_leaveEachOnce 18 = .ok (.aload_n 0, 1) := by decide +kernel
theorem dX11_leaveEachOnce_19 : decode cX11_leaveEachOnce 19 = .ok (.iload_n 3, 1) := by decide +kernel
theorem dX11_leaveEachOnce_20 : decode cX11_leaveEachOnce 20 = .ok (.laload, 1) := by decide +kernel
theorem dX11_leaveEachOnce_21 : decode cX11_leaveEachOnce 21 = .ok (.lcmp, 1) := by decide +kernel
theorem dX11_leaveEachOnce_22 : decode cX11_leaveEachOnce 22 = .ok (.ifCond .eq 12, 3) := by decide +kernel
theorem dX11_leaveEachOnce_25 : decode cX11_leaveEachOnce 25 = .ok (.aload_n 0, 1) := by decide +kernel
theorem dX11_leaveEachOnce_26 : decode cX11_leaveEachOnce 26 = .ok (.iload_n 2, 1) := by decide +kernel
theorem dX11_leaveEachOnce_27 : decode cX11_leaveEachOnce 27 = .ok (.aload_n 0, 1) := by decide +kernel
theorem dX11_leaveEachOnce_28 : decode cX11_leaveEachOnce 28 = .ok (.iload_n 3, 1) := by decide +kernel
theorem dX11_leaveEachOnce_29 : decode cX11_leaveEachOnce 29 = .ok (.laload, 1) := by decide +kernel
theorem dX11_leaveEachOnce_30 : decode cX11_leaveEachOnce 30 = .ok (.lastore, 1) := by decide +kernel
theorem dX11_leaveEachOnce_31 : decode cX11_leaveEachOnce 31 = .ok (.iinc 2 1, 3) := by decide +kernel
theorem dX11_leaveEachOnce_34 : decode cX11_leaveEachOnce 34 = .ok (.iinc 3 1, 3) := by decide +kernel
theorem dX11_leaveEachOnce_37 : decode cX11_leaveEachOnce 37 = .ok (.goto (-33), 3) := by decide +kernel
theorem dX11_leaveEachOnce_40 : decode cX11_leaveEachOnce 40 = .ok (.iload_n 2, 1) := by decide +kernel
theorem dX11_leaveEachOnce_41 : decode cX11_leaveEachOnce 41 = .ok (.ireturn, 1) := by decide +kernel
theorem dX6_isThere_0 : decode cX6_isThere 0 = .ok (.aload_n 0, 1) := by decide +kernel
theorem dX6_isThere_1 : decode cX6_isThere 1 = .ok (.getfield 21, 3) := by decide +kernel
theorem dX6_isThere_4 : decode cX6_isThere 4 = .ok (.ifCond .le 7, 3) := by decide +kernel
theorem dX6_isThere_7 : decode cX6_isThere 7 = .ok (.iconst 1, 1) := by decide +kernel
theorem dX6_isThere_8 : decode cX6_isThere 8 = .ok (.goto 4, 3) := by decide +kernel
theorem dX6_isThere_11 : decode cX6_isThere 11 = .ok (.iconst 0, 1) := by decide +kernel
theorem dX6_isThere_12 : decode cX6_isThere 12 = .ok (.ireturn, 1) := by decide +kernel
theorem dX6_kind_0 : decode cX6_kind 0 = .ok (.aload_n 0, 1) := by decide +kernel
theorem dX6_kind_1 : decode cX6_kind 1 = .ok (.getfield 21, 3) := by decide +kernel
theorem dX6_kind_4 : decode cX6_kind 4 = .ok (.ifCond .le 12, 3) := by decide +kernel
theorem dX6_kind_7 : decode cX6_kind 7 = .ok (.aload_n 0, 1) := by decide +kernel
theorem dX6_kind_8 : decode cX6_kind 8 = .ok (.getfield 11, 3) := by decide +kernel
theorem dX6_kind_11 : decode cX6_kind 11 = .ok (.iconst 0, 1) := by decide +kernel
theorem dX6_kind_12 : decode cX6_kind 12 = .ok (.iaload, 1) := by decide +kernel
theorem dX6_kind_13 : decode cX6_kind 13 = .ok (.goto 4, 3) := by decide +kernel
theorem dX6_kind_16 : decode cX6_kind 16 = .ok (.iconst 0, 1) := by decide +kernel
theorem dX6_kind_17 : decode cX6_kind 17 = .ok (.ireturn, 1) := by decide +kernel
theorem dX6_clear_0 : decode cX6_clear 0 = .ok (.aload_n 0, 1) := by decide +kernel
theorem dX6_clear_1 : decode cX6_clear 1 = .ok (.iconst 0, 1) := by decide +kernel
theorem dX6_clear_2 : decode cX6_clear 2 = .ok (.putfield 21, 3) := by decide +kernel
theorem dX6_clear_5 : decode cX6_clear 5 = .ok (.aload_n 0, 1) := by decide +kernel
theorem dX6_clear_6 : decode cX6_clear 6 = .ok (.iconst 0, 1) := by decide +kernel
theorem dX6_clear_7 : decode cX6_clear 7 = .ok (.putfield 25, 3) := by decide +kernel
theorem dX6_clear_10 : decode cX6_clear 10 = .ok (.return_, 1) := by decide +kernel
theorem dX6_hasRoomForPoint_0 : decode cX6_hasRoomForPoint 0 = .ok (.aload_n 0, 1) := by decide +kernel
theorem dX6_hasRoomForPoint_1 : decode cX6_hasRoomForPoint 1 = .ok (.getfield 25, 3) := by decide +kernel
theorem dX6_hasRoomForPoint_4 : decode cX6_hasRoomForPoint 4 = .ok (.sipush 2048, 3) := by decide +kernel
theorem dX6_hasRoomForPoint_7 : decode cX6_hasRoomForPoint 7 = .ok (.if_icmp .ge 7, 3) := by decide +kernel
theorem dX6_hasRoomForPoint_10 : decode cX6_hasRoomForPoint 10 = .ok (.iconst 1, 1) := by decide +kernel
theorem dX6_hasRoomForPoint_11 : decode cX6_hasRoomForPoint 11 = .ok (.goto 4, 3) := by decide +kernel
theorem dX6_hasRoomForPoint_14 : decode cX6_hasRoomForPoint 14 = .ok (.iconst 0, 1) := by decide +kernel
theorem dX6_hasRoomForPoint_15 : decode cX6_hasRoomForPoint 15 = .ok (.ireturn, 1) := by decide +kernel
theorem dX6_addShape_0 : decode cX6_addShape 0 = .ok (.aload_n 0, 1) := by decide +kernel
theorem dX6_addShape_1 : decode cX6_addShape 1 = .ok (.getfield 21, 3) := by decide +kernel
theorem dX6_addShape_4 : decode cX6_addShape 4 = .ok (.sipush 2046, 3) := by decide +kernel
theorem dX6_addShape_7 : decode cX6_addShape 7 = .ok (.if_icmp .le 5, 3) := by decide +kernel
theorem dX6_addShape_10 : decode cX6_addShape 10 = .ok (.iconst 0, 1) := by decide +kernel
theorem dX6_addShape_11 : decode cX6_addShape 11 = .ok (.ireturn, 1) := by decide +kernel
theorem dX6_addShape_12 : decode cX6_addShape 12 = .ok (.aload_n 0, 1) := by decide +kernel
theorem dX6_addShape_13 : decode cX6_addShape 13 = .ok (.getfield 11, 3) := by decide +kernel
theorem dX6_addShape_16 : decode cX6_addShape 16 = .ok (.aload_n 0, 1) := by decide +kernel
theorem dX6_addShape_17 : decode cX6_addShape 17 = .ok (.getfield 21, 3) := by decide +kernel
theorem dX6_addShape_20 : decode cX6_addShape 20 = .ok (.iload_n 1, 1) := by decide +kernel
theorem dX6_addShape_21 : decode cX6_addShape 21 = .ok (.iastore, 1) := by decide +kernel
theorem dX6_addShape_22 : decode cX6_addShape 22 = .ok (.aload_n 0, 1) := by decide +kernel
theorem dX6_addShape_23 : decode cX6_addShape 23 = .ok (.getfield 11, 3) := by decide +kernel
theorem dX6_addShape_26 : decode cX6_addShape 26 = .ok (.aload_n 0, 1) := by decide +kernel
theorem dX6_addShape_27 : decode cX6_addShape 27 = .ok (.getfield 21, 3) := by decide +kernel
theorem dX6_addShape_30 : decode cX6_addShape 30 = .ok (.iconst 1, 1) := by decide +kernel
theorem dX6_addShape_31 : decode cX6_addShape 31 = .ok (.iadd, 1) := by decide +kernel
theorem dX6_addShape_32 : decode cX6_addShape 32 = .ok (.iload_n 2, 1) := by decide +kernel
theorem dX6_addShape_33 : decode cX6_addShape 33 = .ok (.iastore, 1) := by decide +kernel
theorem dX6_addShape_34 : decode cX6_addShape 34 = .ok (.aload_n 0, 1) := by decide +kernel
theorem dX6_addShape_35 : decode cX6_addShape 35 = .ok (.dup, 1) := by decide +kernel
theorem dX6_addShape_36 : decode cX6_addShape 36 = .ok (.getfield 21, 3) := by decide +kernel
theorem dX6_addShape_39 : decode cX6_addShape 39 = .ok (.iconst 2, 1) := by decide +kernel
theorem dX6_addShape_40 : decode cX6_addShape 40 = .ok (.iadd, 1) := by decide +kernel
theorem dX6_addShape_41 : decode cX6_addShape 41 = .ok (.putfield 21, 3) := by decide +kernel
theorem dX6_addShape_44 : decode cX6_addShape 44 = .ok (.iconst 1, 1) := by decide +kernel
theorem dX6_addShape_45 : decode cX6_addShape 45 = .ok (.ireturn, 1) := by decide +kernel
theorem dX6_addRing_0 : decode cX6_addRing 0 = .ok (.aload_n 0, 1) := by decide +kernel
theorem dX6_addRing_1 : decode cX6_addRing 1 = .ok (.getfield 21, 3) := by decide +kernel
theorem dX6_addRing_4 : decode cX6_addRing 4 = .ok (.sipush 2048, 3) := by decide +kernel
theorem dX6_addRing_7 : decode cX6_addRing 7 = .ok (.if_icmp .lt 5, 3) := by decide +kernel
theorem dX6_addRing_10 : decode cX6_addRing 10 = .ok (.iconst 0, 1) := by decide +kernel
theorem dX6_addRing_11 : decode cX6_addRing 11 = .ok (.ireturn, 1) := by decide +kernel
theorem dX6_addRing_12 : decode cX6_addRing 12 = .ok (.aload_n 0, 1) := by decide +kernel
theorem dX6_addRing_13 : decode cX6_addRing 13 = .ok (.getfield 11, 3) := by decide +kernel
theorem dX6_addRing_16 : decode cX6_addRing 16 = .ok (.aload_n 0, 1) := by decide +kernel
theorem dX6_addRing_17 : decode cX6_addRing 17 = .ok (.getfield 21, 3) := by decide +kernel
theorem dX6_addRing_20 : decode cX6_addRing 20 = .ok (.iload_n 1, 1) := by decide +kernel
theorem dX6_addRing_21 : decode cX6_addRing 21 = .ok (.iastore, 1) := by decide +kernel
theorem dX6_addRing_22 : decode cX6_addRing 22 = .ok (.aload_n 0, 1) := by decide +kernel
theorem dX6_addRing_23 : decode cX6_addRing 23 = .ok (.dup, 1) := by decide +kernel
theorem dX6_addRing_24 : decode cX6_addRing 24 = .ok (.getfield 21, 3) := by decide +kernel
theorem dX6_addRing_27 : decode cX6_addRing 27 = .ok (.iconst 1, 1) := by decide +kernel
theorem dX6_addRing_28 : decode cX6_addRing 28 = .ok (.iadd, 1) := by decide +kernel
theorem dX6_addRing_29 : decode cX6_addRing 29 = .ok (.putfield 21, 3) := by decide +kernel
theorem dX6_addRing_32 : decode cX6_addRing 32 = .ok (.iconst 1, 1) := by decide +kernel
theorem dX6_addRing_33 : decode cX6_addRing 33 = .ok (.ireturn, 1) := by decide +kernel
theorem dX6_addPoint_0 : decode cX6_addPoint 0 = .ok (.aload_n 0, 1) := by decide +kernel
theorem dX6_addPoint_1 : decode cX6_addPoint 1 = .ok (.getfield 25, 3) := by decide +kernel
theorem dX6_addPoint_4 : decode cX6_addPoint 4 = .ok (.sipush 2048, 3) := by decide +kernel
theorem dX6_addPoint_7 : decode cX6_addPoint 7 = .ok (.if_icmp .lt 5, 3) := by decide +kernel
theorem dX6_addPoint_10 : decode cX6_addPoint 10 = .ok (.iconst 0, 1) := by decide +kernel
theorem dX6_addPoint_11 : decode cX6_addPoint 11 = .ok (.ireturn, 1) := by decide +kernel
theorem dX6_addPoint_12 : decode cX6_addPoint 12 = .ok (.aload_n 0, 1) := by decide +kernel
theorem dX6_addPoint_13 : decode cX6_addPoint 13 = .ok (.getfield 15, 3) := by decide +kernel
theorem dX6_addPoint_16 : decode cX6_addPoint 16 = .ok (.aload_n 0, 1) := by decide +kernel
theorem dX6_addPoint_17 : decode cX6_addPoint 17 = .ok (.getfield 25, 3) := by decide +kernel
theorem dX6_addPoint_20 : decode cX6_addPoint 20 = .ok (.iload_n 1, 1) := by decide +kernel
theorem dX6_addPoint_21 : decode cX6_addPoint 21 = .ok (.iastore, 1) := by decide +kernel
theorem dX6_addPoint_22 : decode cX6_addPoint 22 = .ok (.aload_n 0, 1) := by decide +kernel
theorem dX6_addPoint_23 : decode cX6_addPoint 23 = .ok (.getfield 18, 3) := by decide +kernel
theorem dX6_addPoint_26 : decode cX6_addPoint 26 = .ok (.aload_n 0, 1) := by decide +kernel
theorem dX6_addPoint_27 : decode cX6_addPoint 27 = .ok (.getfield 25, 3) := by decide +kernel
theorem dX6_addPoint_30 : decode cX6_addPoint 30 = .ok (.iload_n 2, 1) := by decide +kernel
theorem dX6_addPoint_31 : decode cX6_addPoint 31 = .ok (.iastore, 1) := by decide +kernel
theorem dX6_addPoint_32 : decode cX6_addPoint 32 = .ok (.aload_n 0, 1) := by decide +kernel
theorem dX6_addPoint_33 : decode cX6_addPoint 33 = .ok (.dup, 1) := by decide +kernel
theorem dX6_addPoint_34 : decode cX6_addPoint 34 = .ok (.getfield 25, 3) := by decide +kernel
theorem dX6_addPoint_37 : decode cX6_addPoint 37 = .ok (.iconst 1, 1) := by decide +kernel
theorem dX6_addPoint_38 : decode cX6_addPoint 38 = .ok (.iadd, 1) := by decide +kernel
theorem dX6_addPoint_39 : decode cX6_addPoint 39 = .ok (.putfield 25, 3) := by decide +kernel
theorem dX6_addPoint_42 : decode cX6_addPoint 42 = .ok (.iconst 1, 1) := by decide +kernel
theorem dX6_addPoint_43 : decode cX6_addPoint 43 = .ok (.ireturn, 1) := by decide +kernel
theorem dX6_become_0 : decode cX6_become 0 = .ok (.aload_n 0, 1) := by decide +kernel
theorem dX6_become_1 : decode cX6_become 1 = .ok (.aload_n 1, 1) := by decide +kernel
theorem dX6_become_2 : decode cX6_become 2 = .ok (.getfield 21, 3) := by decide +kernel
theorem dX6_become_5 : decode cX6_become 5 = .ok (.putfield 21, 3) := by decide +kernel
theorem dX6_become_8 : decode cX6_become 8 = .ok (.aload_n 0, 1) := by decide +kernel
theorem dX6_become_9 : decode cX6_become 9 = .ok (.aload_n 1, 1) := by decide +kernel
theorem dX6_become_10 : decode cX6_become 10 = .ok (.getfield 25, 3) := by decide +kernel
theorem dX6_become_13 : decode cX6_become 13 = .ok (.putfield 25, 3) := by decide +kernel
theorem dX6_become_16 : decode cX6_become 16 = .ok (.aload_n 1, 1) := by decide +kernel
theorem dX6_become_17 : decode cX6_become 17 = .ok (.getfield 11, 3) := by decide +kernel
theorem dX6_become_20 : decode cX6_become 20 = .ok (.iconst 0, 1) := by decide +kernel
theorem dX6_become_21 : decode cX6_become 21 = .ok (.aload_n 0, 1) := by decide +kernel
theorem dX6_become_22 : decode cX6_become 22 = .ok (.getfield 11, 3) := by decide +kernel
theorem dX6_become_25 : decode cX6_become 25 = .ok (.iconst 0, 1) := by decide +kernel
theorem dX6_become_26 : decode cX6_become 26 = .ok (.aload_n 0, 1) := by decide +kernel
theorem dX6_become_27 : decode cX6_become 27 = .ok (.getfield 21, 3) := by decide +kernel
theorem dX6_become_30 : decode cX6_become 30 = .ok (.invokestatic 28, 3) := by decide +kernel
theorem dX6_become_33 : decode cX6_become 33 = .ok (.aload_n 1, 1) := by decide +kernel
theorem dX6_become_34 : decode cX6_become 34 = .ok (.getfield 15, 3) := by decide +kernel
theorem dX6_become_37 : decode cX6_become 37 = .ok (.iconst 0, 1) := by decide +kernel
theorem dX6_become_38 : decode cX6_become 38 = .ok (.aload_n 0, 1) := by decide +kernel
theorem dX6_become_39 : decode cX6_become 39 = .ok (.getfield 15, 3) := by decide +kernel
theorem dX6_become_42 : decode cX6_become 42 = .ok (.iconst 0, 1) := by decide +kernel
theorem dX6_become_43 : decode cX6_become 43 = .ok (.aload_n 0, 1) := by decide +kernel
theorem dX6_become_44 : decode cX6_become 44 = .ok (.getfield 25, 3) := by decide +kernel
theorem dX6_become_47 : decode cX6_become 47 = .ok (.invokestatic 28, 3) := by decide +kernel
theorem dX6_become_50 : decode cX6_become 50 = .ok (.aload_n 1, 1) := by decide +kernel
theorem dX6_become_51 : decode cX6_become 51 = .ok (.getfield 18, 3) := by decide +kernel
theorem dX6_become_54 : decode cX6_become 54 = .ok (.iconst 0, 1) := by decide +kernel
theorem dX6_become_55 : decode cX6_become 55 = .ok (.aload_n 0, 1) := by decide +kernel
theorem dX6_become_56 : decode cX6_become 56 = .ok (.getfield 18, 3) := by decide +kernel
theorem dX6_become_59 : decode cX6_become 59 = .ok (.iconst 0, 1) := by decide +kernel
theorem dX6_become_60 : decode cX6_become 60 = .ok (.aload_n 0, 1) := by decide +kernel
theorem dX6_become_61 : decode cX6_become 61 = .ok (.getfield 25, 3) := by decide +kernel
theorem dX6_become_64 : decode cX6_become 64 = .ok (.invokestatic 28, 3) := by decide +kernel
theorem dX6_become_67 : decode cX6_become 67 = .ok (.return_, 1) := by decide +kernel
theorem dX6_isLike_0 : decode cX6_isLike 0 = .ok (.aload_n 0, 1) := by decide +kernel
theorem dX6_isLike_1 : decode cX6_isLike 1 = .ok (.getfield 21, 3) := by decide +kernel
theorem dX6_isLike_4 : decode cX6_isLike 4 = .ok (.aload_n 1, 1) := by decide +kernel
theorem dX6_isLike_5 : decode cX6_isLike 5 = .ok (.getfield 21, 3) := by decide +kernel
theorem dX6_isLike_8 : decode cX6_isLike 8 = .ok (.if_icmp .ne 14, 3) := by decide +kernel
theorem dX6_isLike_11 : decode cX6_isLike 11 = .ok (.aload_n 0, 1) := by decide +kernel
theorem dX6_isLike_12 : decode cX6_isLike 12 = .ok (.getfield 25, 3) := by decide +kernel
theorem dX6_isLike_15 : decode cX6_isLike 15 = .ok (.aload_n 1, 1) := by decide +kernel
theorem dX6_isLike_16 : decode cX6_isLike 16 = .ok (.getfield 25, 3) := by decide +kernel
theorem dX6_isLike_19 : decode cX6_isLike 19 = .ok (.if_icmp .eq 5, 3) := by decide +kernel
theorem dX6_isLike_22 : decode cX6_isLike 22 = .ok (.iconst 0, 1) := by decide +kernel
theorem dX6_isLike_23 : decode cX6_isLike 23 = .ok (.ireturn, 1) := by decide +kernel
theorem dX6_isLike_24 : decode cX6_isLike 24 = .ok (.iconst 0, 1) := by decide +kernel
theorem dX6_isLike_25 : decode cX6_isLike 25 = .ok (.istore_n 2, 1) := by decide +kernel
theorem dX6_isLike_26 : decode cX6_isLike 26 = .ok (.iload_n 2, 1) := by decide +kernel
theorem dX6_isLike_27 : decode cX6_isLike 27 = .ok (.aload_n 0, 1) := by decide +kernel
theorem dX6_isLike_28 : decode cX6_isLike 28 = .ok (.getfield 21, 3) := by decide +kernel
theorem dX6_isLike_31 : decode cX6_isLike 31 = .ok (.if_icmp .ge 26, 3) := by decide +kernel
theorem dX6_isLike_34 : decode cX6_isLike 34 = .ok (.aload_n 0, 1) := by decide +kernel
theorem dX6_isLike_35 : decode cX6_isLike 35 = .ok (.getfield 11, 3) := by decide +kernel
theorem dX6_isLike_38 : decode cX6_isLike 38 = .ok (.iload_n 2, 1) := by decide +kernel
theorem dX6_isLike_39 : decode cX6_isLike 39 = .ok (.iaload, 1) := by decide +kernel
theorem dX6_isLike_40 : decode cX6_isLike 40 = .ok (.aload_n 1, 1) := by decide +kernel
theorem dX6_isLike_41 : decode cX6_isLike 41 = .ok (.getfield 11, 3) := by decide +kernel
theorem dX6_isLike_44 : decode cX6_isLike 44 = .ok (.iload_n 2, 1) := by decide +kernel
theorem dX6_isLike_45 : decode cX6_isLike 45 = .ok (.iaload, 1) := by decide +kernel
theorem dX6_isLike_46 : decode cX6_isLike 46 = .ok (.if_icmp .eq 5, 3) := by decide +kernel
theorem dX6_isLike_49 : decode cX6_isLike 49 = .ok (.iconst 0, 1) := by decide +kernel
theorem dX6_isLike_50 : decode cX6_isLike 50 = .ok (.ireturn, 1) := by decide +kernel
theorem dX6_isLike_51 : decode cX6_isLike 51 = .ok (.iinc 2 1, 3) := by decide +kernel
theorem dX6_isLike_54 : decode cX6_isLike 54 = .ok (.goto (-28), 3) := by decide +kernel
theorem dX6_isLike_57 : decode cX6_isLike 57 = .ok (.iconst 0, 1) := by decide +kernel
theorem dX6_isLike_58 : decode cX6_isLike 58 = .ok (.istore_n 2, 1) := by decide +kernel
theorem dX6_isLike_59 : decode cX6_isLike 59 = .ok (.iload_n 2, 1) := by decide +kernel
theorem dX6_isLike_60 : decode cX6_isLike 60 = .ok (.aload_n 0, 1) := by decide +kernel
theorem dX6_isLike_61 : decode cX6_isLike 61 = .ok (.getfield 25, 3) := by decide +kernel
theorem dX6_isLike_64 : decode cX6_isLike 64 = .ok (.if_icmp .ge 41, 3) := by decide +kernel
theorem dX6_isLike_67 : decode cX6_isLike 67 = .ok (.aload_n 0, 1) := by decide +kernel
theorem dX6_isLike_68 : decode cX6_isLike 68 = .ok (.getfield 15, 3) := by decide +kernel
theorem dX6_isLike_71 : decode cX6_isLike 71 = .ok (.iload_n 2, 1) := by decide +kernel
theorem dX6_isLike_72 : decode cX6_isLike 72 = .ok (.iaload, 1) := by decide +kernel
theorem dX6_isLike_73 : decode cX6_isLike 73 = .ok (.aload_n 1, 1) := by decide +kernel
theorem dX6_isLike_74 : decode cX6_isLike 74 = .ok (.getfield 15, 3) := by decide +kernel
theorem dX6_isLike_77 : decode cX6_isLike 77 = .ok (.iload_n 2, 1) := by decide +kernel
theorem dX6_isLike_78 : decode cX6_isLike 78 = .ok (.iaload, 1) := by decide +kernel
theorem dX6_isLike_79 : decode cX6_isLike 79 = .ok (.if_icmp .ne 18, 3) := by decide +kernel
theorem dX6_isLike_82 : decode cX6_isLike 82 = .ok (.aload_n 0, 1) := by decide +kernel
theorem dX6_isLike_83 : decode cX6_isLike 83 = .ok (.getfield 18, 3) := by decide +kernel
theorem dX6_isLike_86 : decode cX6_isLike 86 = .ok (.iload_n 2, 1) := by decide +kernel
theorem dX6_isLike_87 : decode cX6_isLike 87 = .ok (.iaload, 1) := by decide +kernel
theorem dX6_isLike_88 : decode cX6_isLike 88 = .ok (.aload_n 1, 1) := by decide +kernel
theorem dX6_isLike_89 : decode cX6_isLike 89 = .ok (.getfield 18, 3) := by decide +kernel
theorem dX6_isLike_92 : decode cX6_isLike 92 = .ok (.iload_n 2, 1) := by decide +kernel
theorem dX6_isLike_93 : decode cX6_isLike 93 = .ok (.iaload, 1) := by decide +kernel
theorem dX6_isLike_94 : decode cX6_isLike 94 = .ok (.if_icmp .eq 5, 3) := by decide +kernel
theorem dX6_isLike_97 : decode cX6_isLike 97 = .ok (.iconst 0, 1) := by decide +kernel
theorem dX6_isLike_98 : decode cX6_isLike 98 = .ok (.ireturn, 1) := by decide +kernel
theorem dX6_isLike_99 : decode cX6_isLike 99 = .ok (.iinc 2 1, 3) := by decide +kernel
theorem dX6_isLike_102 : decode cX6_isLike 102 = .ok (.goto (-43), 3) := by decide +kernel
theorem dX6_isLike_105 : decode cX6_isLike 105 = .ok (.iconst 1, 1) := by decide +kernel
theorem dX6_isLike_106 : decode cX6_isLike 106 = .ok (.ireturn, 1) := by decide +kernel
theorem dX6_behind_0 : decode cX6_behind 0 = .ok (.aload_n 0, 1) := by decide +kernel
theorem dX6_behind_1 : decode cX6_behind 1 = .ok (.getfield 11, 3) := by decide +kernel
theorem dX6_behind_4 : decode cX6_behind 4 = .ok (.iload_n 1, 1) := by decide +kernel
theorem dX6_behind_5 : decode cX6_behind 5 = .ok (.iaload, 1) := by decide +kernel
theorem dX6_behind_6 : decode cX6_behind 6 = .ok (.iconst 3, 1) := by decide +kernel
theorem dX6_behind_7 : decode cX6_behind 7 = .ok (.if_icmp .ne 18, 3) := by decide +kernel
theorem dX6_behind_10 : decode cX6_behind 10 = .ok (.iload_n 1, 1) := by decide +kernel
theorem dX6_behind_11 : decode cX6_behind 11 = .ok (.iconst 2, 1) := by decide +kernel
theorem dX6_behind_12 : decode cX6_behind 12 = .ok (.iadd, 1) := by decide +kernel
theorem dX6_behind_13 : decode cX6_behind 13 = .ok (.aload_n 0, 1) := by decide +kernel
theorem dX6_behind_14 : decode cX6_behind 14 = .ok (.getfield 11, 3) := by decide +kernel
theorem dX6_behind_17 : decode cX6_behind 17 = .ok (.iload_n 1, 1) := by decide +kernel
theorem dX6_behind_18 : decode cX6_behind 18 = .ok (.iconst 1, 1) := by decide +kernel
theorem dX6_behind_19 : decode cX6_behind 19 = .ok (.iadd, 1) := by decide +kernel
theorem dX6_behind_20 : decode cX6_behind 20 = .ok (.iaload, 1) := by decide +kernel
theorem dX6_behind_21 : decode cX6_behind 21 = .ok (.iadd, 1) := by decide +kernel
theorem dX6_behind_22 : decode cX6_behind 22 = .ok (.goto 6, 3) := by decide +kernel
theorem dX6_behind_25 : decode cX6_behind 25 = .ok (.iload_n 1, 1) := by decide +kernel
theorem dX6_behind_26 : decode cX6_behind 26 = .ok (.iconst 2, 1) := by decide +kernel
theorem dX6_behind_27 : decode cX6_behind 27 = .ok (.iadd, 1) := by decide +kernel
theorem dX6_behind_28 : decode cX6_behind 28 = .ok (.ireturn, 1) := by decide +kernel
theorem dX6_rows_0 : decode cX6_rows 0 = .ok (.aload_n 0, 1) := by decide +kernel
theorem dX6_rows_1 : decode cX6_rows 1 = .ok (.getfield 11, 3) := by decide +kernel
theorem dX6_rows_4 : decode cX6_rows 4 = .ok (.iload_n 1, 1) := by decide +kernel
theorem dX6_rows_5 : decode cX6_rows 5 = .ok (.iaload, 1) := by decide +kernel
theorem dX6_rows_6 : decode cX6_rows 6 = .ok (.iconst 3, 1) := by decide +kernel
theorem dX6_rows_7 : decode cX6_rows 7 = .ok (.if_icmp .ne 12, 3) := by decide +kernel
theorem dX6_rows_10 : decode cX6_rows 10 = .ok (.aload_n 0, 1) := by decide +kernel
theorem dX6_rows_11 : decode cX6_rows 11 = .ok (.getfield 11, 3) := by decide +kernel
theorem dX6_rows_14 : decode cX6_rows 14 = .ok (.iload_n 1, 1) := by decide +kernel
theorem dX6_rows_15 : decode cX6_rows 15 = .ok (.iconst 1, 1) := by decide +kernel
theorem dX6_rows_16 : decode cX6_rows 16 = .ok (.iadd, 1) := by decide +kernel
theorem dX6_rows_17 : decode cX6_rows 17 = .ok (.iaload, 1) := by decide +kernel
theorem dX6_rows_18 : decode cX6_rows 18 = .ok (.ireturn, 1) := by decide +kernel
theorem dX6_rows_19 : decode cX6_rows 19 = .ok (.aload_n 0, 1) := by decide +kernel
theorem dX6_rows_20 : decode cX6_rows 20 = .ok (.getfield 11, 3) := by decide +kernel
theorem dX6_rows_23 : decode cX6_rows 23 = .ok (.iload_n 1, 1) := by decide +kernel
theorem dX6_rows_24 : decode cX6_rows 24 = .ok (.iaload, 1) := by decide +kernel
theorem dX6_rows_25 : decode cX6_rows 25 = .ok (.iconst 3, 1) := by decide +kernel
theorem dX6_rows_26 : decode cX6_rows 26 = .ok (.if_icmp .ge 7, 3) := by decide +kernel
theorem dX6_rows_29 : decode cX6_rows 29 = .ok (.iconst 1, 1) := by decide +kernel
theorem dX6_rows_30 : decode cX6_rows 30 = .ok (.goto 4, 3) := by decide +kernel
theorem dX6_rows_33 : decode cX6_rows 33 = .ok (.iconst 0, 1) := by decide +kernel
theorem dX6_rows_34 : decode cX6_rows 34 = .ok (.ireturn, 1) := by decide +kernel
theorem dX6_rowLength_0 : decode cX6_rowLength 0 = .ok (.aload_n 0, 1) := by decide +kernel
theorem dX6_rowLength_1 : decode cX6_rowLength 1 = .ok (.getfield 11, 3) := by decide +kernel
theorem dX6_rowLength_4 : decode cX6_rowLength 4 = .ok (.iload_n 1, 1) := by decide +kernel
theorem dX6_rowLength_5 : decode cX6_rowLength 5 = .ok (.iaload, 1) := by decide +kernel
theorem dX6_rowLength_6 : decode cX6_rowLength 6 = .ok (.iconst 3, 1) := by decide +kernel
theorem dX6_rowLength_7 : decode cX6_rowLength 7 = .ok (.if_icmp .ne 11, 3) := by decide +kernel
theorem dX6_rowLength_10 : decode cX6_rowLength 10 = .ok (.iload_n 1, 1) := by decide +kernel
theorem dX6_rowLength_11 : decode cX6_rowLength 11 = .ok (.iconst 2, 1) := by decide +kernel
theorem dX6_rowLength_12 : decode cX6_rowLength 12 = .ok (.iadd, 1) := by decide +kernel
theorem dX6_rowLength_13 : decode cX6_rowLength 13 = .ok (.iload_n 2, 1) := by decide +kernel
theorem dX6_rowLength_14 : decode cX6_rowLength 14 = .ok (.iadd, 1) := by decide +kernel
theorem dX6_rowLength_15 : decode cX6_rowLength 15 = .ok (.goto 6, 3) := by decide +kernel
theorem dX6_rowLength_18 : decode cX6_rowLength 18 = .ok (.iload_n 1, 1) := by decide +kernel
theorem dX6_rowLength_19 : decode cX6_rowLength 19 = .ok (.iconst 1, 1) := by decide +kernel
theorem dX6_rowLength_20 : decode cX6_rowLength 20 = .ok (.iadd, 1) := by decide +kernel
theorem dX6_rowLength_21 : decode cX6_rowLength 21 = .ok (.istore_n 3, 1) := by decide +kernel
theorem dX6_rowLength_22 : decode cX6_rowLength 22 = .ok (.iload_n 3, 1) := by decide +kernel
theorem dX6_rowLength_23 : decode cX6_rowLength 23 = .ok (.aload_n 0, 1) := by decide +kernel
theorem dX6_rowLength_24 : decode cX6_rowLength 24 = .ok (.getfield 21, 3) := by decide +kernel
theorem dX6_rowLength_27 : decode cX6_rowLength 27 = .ok (.if_icmp .ge 12, 3) := by decide +kernel
theorem dX6_rowLength_30 : decode cX6_rowLength 30 = .ok (.aload_n 0, 1) := by decide +kernel
theorem dX6_rowLength_31 : decode cX6_rowLength 31 = .ok (.getfield 11, 3) := by decide +kernel
theorem dX6_rowLength_34 : decode cX6_rowLength 34 = .ok (.iload_n 3, 1) := by decide +kernel
theorem dX6_rowLength_35 : decode cX6_rowLength 35 = .ok (.iaload, 1) := by decide +kernel
theorem dX6_rowLength_36 : decode cX6_rowLength 36 = .ok (.goto 4, 3) := by decide +kernel
theorem dX6_rowLength_39 : decode cX6_rowLength 39 = .ok (.iconst 0, 1) := by decide +kernel
theorem dX6_rowLength_40 : decode cX6_rowLength 40 = .ok (.ireturn, 1) := by decide +kernel
theorem dX6_pointsAt_0 : decode cX6_pointsAt 0 = .ok (.iconst 0, 1) := by decide +kernel
theorem dX6_pointsAt_1 : decode cX6_pointsAt 1 = .ok (.istore_n 2, 1) := by decide +kernel
theorem dX6_pointsAt_2 : decode cX6_pointsAt 2 = .ok (.iconst 0, 1) := by decide +kernel
theorem dX6_pointsAt_3 : decode cX6_pointsAt 3 = .ok (.istore_n 3, 1) := by decide +kernel
theorem dX6_pointsAt_4 : decode cX6_pointsAt 4 = .ok (.iload_n 3, 1) := by decide +kernel
theorem dX6_pointsAt_5 : decode cX6_pointsAt 5 = .ok (.aload_n 0, 1) := by decide +kernel
theorem dX6_pointsAt_6 : decode cX6_pointsAt 6 = .ok (.iload_n 1, 1) := by decide +kernel
theorem dX6_pointsAt_7 : decode cX6_pointsAt 7 = .ok (.invokevirtual 34, 3) := by decide +kernel
theorem dX6_pointsAt_10 : decode cX6_pointsAt 10 = .ok (.if_icmp .ge 18, 3) := by decide +kernel
theorem dX6_pointsAt_13 : decode cX6_pointsAt 13 = .ok (.iload_n 2, 1) := by decide +kernel
theorem dX6_pointsAt_14 : decode cX6_pointsAt 14 = .ok (.aload_n 0, 1) := by decide +kernel
theorem dX6_pointsAt_15 : decode cX6_pointsAt 15 = .ok (.iload_n 1, 1) := by decide +kernel
theorem dX6_pointsAt_16 : decode cX6_pointsAt 16 = .ok (.iload_n 3, 1) := by decide +kernel
theorem dX6_pointsAt_17 : decode cX6_pointsAt 17 = .ok (.invokevirtual 38, 3) := by decide +kernel
theorem dX6_pointsAt_20 : decode cX6_pointsAt 20 = .ok (.iadd, 1) := by decide +kernel
theorem dX6_pointsAt_21 : decode cX6_pointsAt 21 = .ok (.istore_n 2, 1) := by decide +kernel
theorem dX6_pointsAt_22 : decode cX6_pointsAt 22 = .ok (.iinc 3 1, 3) := by decide +kernel
theorem dX6_pointsAt_25 : decode cX6_pointsAt 25 = .ok (.goto (-21), 3) := by decide +kernel
theorem dX6_pointsAt_28 : decode cX6_pointsAt 28 = .ok (.iload_n 2, 1) := by decide +kernel
theorem dX6_pointsAt_29 : decode cX6_pointsAt 29 = .ok (.ireturn, 1) := by decide +kernel
theorem dX6_areLike_0 : decode cX6_areLike 0 = .ok (.aload_n 0, 1) := by decide +kernel
theorem dX6_areLike_1 : decode cX6_areLike 1 = .ok (.getfield 15, 3) := by decide +kernel
theorem dX6_areLike_4 : decode cX6_areLike 4 = .ok (.iload_n 1, 1) := by decide +kernel
theorem dX6_areLike_5 : decode cX6_areLike 5 = .ok (.iaload, 1) := by decide +kernel
theorem dX6_areLike_6 : decode cX6_areLike 6 = .ok (.aload_n 0, 1) := by decide +kernel
theorem dX6_areLike_7 : decode cX6_areLike 7 = .ok (.getfield 15, 3) := by decide +kernel
theorem dX6_areLike_10 : decode cX6_areLike 10 = .ok (.iload_n 2, 1) := by decide +kernel
theorem dX6_areLike_11 : decode cX6_areLike 11 = .ok (.iaload, 1) := by decide +kernel
theorem dX6_areLike_12 : decode cX6_areLike 12 = .ok (.if_icmp .ne 22, 3) := by decide +kernel
theorem dX6_areLike_15 : decode cX6_areLike 15 = .ok (.aload_n 0, 1) := by decide +kernel
theorem dX6_areLike_16 : decode cX6_areLike 16 = .ok (.getfield 18, 3) := by decide +kernel
theorem dX6_areLike_19 : decode cX6_areLike 19 = .ok (.iload_n 1, 1) := by decide +kernel
theorem dX6_areLike_20 : decode cX6_areLike 20 = .ok (.iaload, 1) := by decide +kernel
theorem dX6_areLike_21 : decode cX6_areLike 21 = .ok (.aload_n 0, 1) := by decide +kernel
theorem dX6_areLike_22 : decode cX6_areLike 22 = .ok (.getfield 18, 3) := by decide +kernel
theorem dX6_areLike_25 : decode cX6_areLike 25 = .ok (.iload_n 2, 1) := by decide +kernel
theorem dX6_areLike_26 : decode cX6_areLike 26 = .ok (.iaload, 1) := by decide +kernel
theorem dX6_areLike_27 : decode cX6_areLike 27 = .ok (.if_icmp .ne 7, 3) := by decide +kernel
theorem dX6_areLike_30 : decode cX6_areLike 30 = .ok (.iconst 1, 1) := by decide +kernel
theorem dX6_areLike_31 : decode cX6_areLike 31 = .ok (.goto 4, 3) := by decide +kernel
theorem dX6_areLike_34 : decode cX6_areLike 34 = .ok (.iconst 0, 1) := by decide +kernel
theorem dX6_areLike_35 : decode cX6_areLike 35 = .ok (.ireturn, 1) := by decide +kernel
theorem dX6_isAt_0 : decode cX6_isAt 0 = .ok (.aload_n 0, 1) := by decide +kernel
theorem dX6_isAt_1 : decode cX6_isAt 1 = .ok (.getfield 15, 3) := by decide +kernel
theorem dX6_isAt_4 : decode cX6_isAt 4 = .ok (.iload_n 1, 1) := by decide +kernel
theorem dX6_isAt_5 : decode cX6_isAt 5 = .ok (.iaload, 1) := by decide +kernel
theorem dX6_isAt_6 : decode cX6_isAt 6 = .ok (.iload_n 2, 1) := by decide +kernel
theorem dX6_isAt_7 : decode cX6_isAt 7 = .ok (.if_icmp .ne 17, 3) := by decide +kernel
theorem dX6_isAt_10 : decode cX6_isAt 10 = .ok (.aload_n 0, 1) := by decide +kernel
theorem dX6_isAt_11 : decode cX6_isAt 11 = .ok (.getfield 18, 3) := by decide +kernel
theorem dX6_isAt_14 : decode cX6_isAt 14 = .ok (.iload_n 1, 1) := by decide +kernel
theorem dX6_isAt_15 : decode cX6_isAt 15 = .ok (.iaload, 1) := by decide +kernel
theorem dX6_isAt_16 : decode cX6_isAt 16 = .ok (.iload_n 3, 1) := by decide +kernel
theorem dX6_isAt_17 : decode cX6_isAt 17 = .ok (.if_icmp .ne 7, 3) := by decide +kernel
theorem dX6_isAt_20 : decode cX6_isAt 20 = .ok (.iconst 1, 1) := by decide +kernel
theorem dX6_isAt_21 : decode cX6_isAt 21 = .ok (.goto 4, 3) := by decide +kernel
theorem dX6_isAt_24 : decode cX6_isAt 24 = .ok (.iconst 0, 1) := by decide +kernel
theorem dX6_isAt_25 : decode cX6_isAt 25 = .ok (.ireturn, 1) := by decide +kernel
theorem dX6_isClosed_0 : decode cX6_isClosed 0 = .ok (.iload_n 2, 1) := by decide +kernel
theorem dX6_isClosed_1 : decode cX6_isClosed 1 = .ok (.ifCond .le 20, 3) := by decide +kernel
theorem dX6_isClosed_4 : decode cX6_isClosed 4 = .ok (.aload_n 0, 1) := by decide +kernel
theorem dX6_isClosed_5 : decode cX6_isClosed 5 = .ok (.iload_n 1, 1) := by decide +kernel
theorem dX6_isClosed_6 : decode cX6_isClosed 6 = .ok (.iload_n 1, 1) := by decide +kernel
theorem dX6_isClosed_7 : decode cX6_isClosed 7 = .ok (.iload_n 2, 1) := by decide +kernel
theorem dX6_isClosed_8 : decode cX6_isClosed 8 = .ok (.iadd, 1) := by decide +kernel
theorem dX6_isClosed_9 : decode cX6_isClosed 9 = .ok (.iconst 1, 1) := by decide +kernel
theorem dX6_isClosed_10 : decode cX6_isClosed 10 = .ok (.isub, 1) := by decide +kernel
theorem dX6_isClosed_11 : decode cX6_isClosed 11 = .ok (.invokevirtual 42, 3) := by decide +kernel
theorem dX6_isClosed_14 : decode cX6_isClosed 14 = .ok (.ifCond .eq 7, 3) := by decide +kernel
theorem dX6_isClosed_17 : decode cX6_isClosed 17 = .ok (.iconst 1, 1) := by decide +kernel
theorem dX6_isClosed_18 : decode cX6_isClosed 18 = .ok (.goto 4, 3) := by decide +kernel
theorem dX6_isClosed_21 : decode cX6_isClosed 21 = .ok (.iconst 0, 1) := by decide +kernel
theorem dX6_isClosed_22 : decode cX6_isClosed 22 = .ok (.ireturn, 1) := by decide +kernel
theorem dX6_liesWithin_0 : decode cX6_liesWithin 0 = .ok (.iconst 0, 1) := by decide +kernel
theorem dX6_liesWithin_1 : decode cX6_liesWithin 1 = .ok (.istore_n 2, 1) := by decide +kernel
theorem dX6_liesWithin_2 : decode cX6_liesWithin 2 = .ok (.iload_n 2, 1) := by decide +kernel
theorem dX6_liesWithin_3 : decode cX6_liesWithin 3 = .ok (.aload_n 0, 1) := by decide +kernel
theorem dX6_liesWithin_4 : decode cX6_liesWithin 4 = .ok (.getfield 25, 3) := by decide +kernel
theorem dX6_liesWithin_7 : decode cX6_liesWithin 7 = .ok (.if_icmp .ge 37, 3) := by decide +kernel
theorem dX6_liesWithin_10 : decode cX6_liesWithin 10 = .ok (.aload_n 0, 1) := by decide +kernel
theorem dX6_liesWithin_11 : decode cX6_liesWithin 11 = .ok (.getfield 15, 3) := by decide +kernel
theorem dX6_liesWithin_14 : decode cX6_liesWithin 14 = .ok (.iload_n 2, 1) := by decide +kernel
theorem dX6_liesWithin_15 : decode cX6_liesWithin 15 = .ok (.iaload, 1) := by decide +kernel
theorem dX6_liesWithin_16 : decode cX6_liesWithin 16 = .ok (.iload_n 1, 1) := by decide +kernel
theorem dX6_liesWithin_17 : decode cX6_liesWithin 17 = .ok (.invokestatic 46, 3) := by decide +kernel
theorem dX6_liesWithin_20 : decode cX6_liesWithin 20 = .ok (.ifCond .ne 16, 3) := by decide +kernel
theorem dX6_liesWithin_23 : decode cX6_liesWithin 23 = .ok (.aload_n 0, 1) := by decide +kernel
theorem dX6_liesWithin_24 : decode cX6_liesWithin 24 = .ok (.getfield 18, 3) := by decide +kernel
theorem dX6_liesWithin_27 : decode cX6_liesWithin 27 = .ok (.iload_n 2, 1) := by decide +kernel
theorem dX6_liesWithin_28 : decode cX6_liesWithin 28 = .ok (.iaload, 1) := by decide +kernel
theorem dX6_liesWithin_29 : decode cX6_liesWithin 29 = .ok (.iload_n 1, 1) := by decide +kernel
theorem dX6_liesWithin_30 : decode cX6_liesWithin 30 = .ok (.invokestatic 46, 3) := by decide +kernel
theorem dX6_liesWithin_33 : decode cX6_liesWithin 33 = .ok (.ifCond .eq 5, 3) := by decide +kernel
theorem dX6_liesWithin_36 : decode cX6_liesWithin 36 = .ok (.iconst 0, 1) := by decide +kernel
theorem dX6_liesWithin_37 : decode cX6_liesWithin 37 = .ok (.ireturn, 1) := by decide +kernel
theorem dX6_liesWithin_38 : decode cX6_liesWithin 38 = .ok (.iinc 2 1, 3) := by decide +kernel
theorem dX6_liesWithin_41 : decode cX6_liesWithin 41 = .ok (.goto (-39), 3) := by decide +kernel
theorem dX6_liesWithin_44 : decode cX6_liesWithin 44 = .ok (.iconst 1, 1) := by decide +kernel
theorem dX6_liesWithin_45 : decode cX6_liesWithin 45 = .ok (.ireturn, 1) := by decide +kernel
theorem dX6_twiceAround_0 : decode cX6_twiceAround 0 = .ok (.lconst 0, 1) := by decide +kernel
theorem dX6_twiceAround_1 : decode cX6_twiceAround 1 = .ok (.lstore_n 3, 1) := by decide +kernel
theorem dX6_twiceAround_2 : decode cX6_twiceAround 2 = .ok (.iconst 0, 1) := by decide +kernel
theorem dX6_twiceAround_3 : decode cX6_twiceAround 3 = .ok (.istore 5, 2) := by decide +kernel
theorem dX6_twiceAround_5 : decode cX6_twiceAround 5 = .ok (.iload 5, 2) := by decide +kernel
theorem dX6_twiceAround_7 : decode cX6_twiceAround 7 = .ok (.iload_n 2, 1) := by decide +kernel
theorem dX6_twiceAround_8 : decode cX6_twiceAround 8 = .ok (.if_icmp .ge 71, 3) := by decide +kernel
theorem dX6_twiceAround_11 : decode cX6_twiceAround 11 = .ok (.iload_n 1, 1) := by decide +kernel
theorem dX6_twiceAround_12 : decode cX6_twiceAround 12 = .ok (.iload 5, 2) := by decide +kernel
theorem dX6_twiceAround_14 : decode cX6_twiceAround 14 = .ok (.iadd, 1) := by decide +kernel
theorem dX6_twiceAround_15 : decode cX6_twiceAround 15 = .ok (.istore 6, 2) := by decide +kernel
theorem dX6_twiceAround_17 : decode cX6_twiceAround 17 = .ok (.iload 5, 2) := by decide +kernel
theorem dX6_twiceAround_19 : decode cX6_twiceAround 19 = .ok (.iconst 1, 1) := by decide +kernel
theorem dX6_twiceAround_20 : decode cX6_twiceAround 20 = .ok (.iadd, 1) := by decide +kernel
theorem dX6_twiceAround_21 : decode cX6_twiceAround 21 = .ok (.iload_n 2, 1) := by decide +kernel
theorem dX6_twiceAround_22 : decode cX6_twiceAround 22 = .ok (.if_icmp .ge 10, 3) := by decide +kernel
theorem dX6_twiceAround_25 : decode cX6_twiceAround 25 = .ok (.iload 6, 2) := by decide +kernel
theorem dX6_twiceAround_27 : decode cX6_twiceAround 27 = .ok (.iconst 1, 1) := by decide +kernel
theorem dX6_twiceAround_28 : decode cX6_twiceAround 28 = .ok (.iadd, 1) := by decide +kernel
theorem dX6_twiceAround_29 : decode cX6_twiceAround 29 = .ok (.goto 4, 3) := by decide +kernel
theorem dX6_twiceAround_32 : decode cX6_twiceAround 32 = .ok (.iload_n 1, 1) := by decide +kernel
theorem dX6_twiceAround_33 : decode cX6_twiceAround 33 = .ok (.istore 7, 2) := by decide +kernel
theorem dX6_twiceAround_35 : decode cX6_twiceAround 35 = .ok (.lload_n 3, 1) := by decide +kernel
theorem dX6_twiceAround_36 : decode cX6_twiceAround 36 = .ok (.aload_n 0, 1) := by decide +kernel
theorem dX6_twiceAround_37 : decode cX6_twiceAround 37 = .ok (.getfield 15, 3) := by decide +kernel
theorem dX6_twiceAround_40 : decode cX6_twiceAround 40 = .ok (.iload 6, 2) := by decide +kernel
theorem dX6_twiceAround_42 : decode cX6_twiceAround 42 = .ok (.iaload, 1) := by decide +kernel
theorem dX6_twiceAround_43 : decode cX6_twiceAround 43 = .ok (.i2l, 1) := by decide +kernel
theorem dX6_twiceAround_44 : decode cX6_twiceAround 44 = .ok (.aload_n 0, 1) := by decide +kernel
theorem dX6_twiceAround_45 : decode cX6_twiceAround 45 = .ok (.getfield 18, 3) := by decide +kernel
theorem dX6_twiceAround_48 : decode cX6_twiceAround 48 = .ok (.iload 7, 2) := by decide +kernel
theorem dX6_twiceAround_50 : decode cX6_twiceAround 50 = .ok (.iaload, 1) := by decide +kernel
theorem dX6_twiceAround_51 : decode cX6_twiceAround 51 = .ok (.i2l, 1) := by decide +kernel
theorem dX6_twiceAround_52 : decode cX6_twiceAround 52 = .ok (.lmul, 1) := by decide +kernel
theorem dX6_twiceAround_53 : decode cX6_twiceAround 53 = .ok (.aload_n 0, 1) := by decide +kernel
theorem dX6_twiceAround_54 : decode cX6_twiceAround 54 = .ok (.getfield 15, 3) := by decide +kernel
theorem dX6_twiceAround_57 : decode cX6_twiceAround 57 = .ok (.iload 7, 2) := by decide +kernel
theorem dX6_twiceAround_59 : decode cX6_twiceAround 59 = .ok (.iaload, 1) := by decide +kernel
theorem dX6_twiceAround_60 : decode cX6_twiceAround 60 = .ok (.i2l, 1) := by decide +kernel
theorem dX6_twiceAround_61 : decode cX6_twiceAround 61 = .ok (.aload_n 0, 1) := by decide +kernel
theorem dX6_twiceAround_62 : decode cX6_twiceAround 62 = .ok (.getfield 18, 3) := by decide +kernel
theorem dX6_twiceAround_65 : decode cX6_twiceAround 65 = .ok (.iload 6, 2) := by decide +kernel
theorem dX6_twiceAround_67 : decode cX6_twiceAround 67 = .ok (.iaload, 1) := by decide +kernel
theorem dX6_twiceAround_68 : decode cX6_twiceAround 68 = .ok (.i2l, 1) := by decide +kernel
theorem dX6_twiceAround_69 : decode cX6_twiceAround 69 = .ok (.lmul, 1) := by decide +kernel
theorem dX6_twiceAround_70 : decode cX6_twiceAround 70 = .ok (.lsub, 1) := by decide +kernel
theorem dX6_twiceAround_71 : decode cX6_twiceAround 71 = .ok (.ladd, 1) := by decide +kernel
theorem dX6_twiceAround_72 : decode cX6_twiceAround 72 = .ok (.lstore_n 3, 1) := by decide +kernel
theorem dX6_twiceAround_73 : decode cX6_twiceAround 73 = .ok (.iinc 5 1, 3) := by decide +kernel
theorem dX6_twiceAround_76 : decode cX6_twiceAround 76 = .ok (.goto (-71), 3) := by decide +kernel
theorem dX6_twiceAround_79 : decode cX6_twiceAround 79 = .ok (.lload_n 3, 1) := by decide +kernel
theorem dX6_twiceAround_80 : decode cX6_twiceAround 80 = .ok (.lreturn, 1) := by decide +kernel
theorem dX6_putBox_0 : decode cX6_putBox 0 = .ok (.iconst 0, 1) := by decide +kernel
theorem dX6_putBox_1 : decode cX6_putBox 1 = .ok (.istore_n 2, 1) := by decide +kernel
theorem dX6_putBox_2 : decode cX6_putBox 2 = .ok (.iload_n 2, 1) := by decide +kernel
theorem dX6_putBox_3 : decode cX6_putBox 3 = .ok (.aload_n 0, 1) := by decide +kernel
theorem dX6_putBox_4 : decode cX6_putBox 4 = .ok (.getfield 25, 3) := by decide +kernel
theorem dX6_putBox_7 : decode cX6_putBox 7 = .ok (.if_icmp .ge 121, 3) := by decide +kernel
theorem dX6_putBox_10 : decode cX6_putBox 10 = .ok (.aload_n 1, 1) := by decide +kernel
theorem dX6_putBox_11 : decode cX6_putBox 11 = .ok (.iconst 0, 1) := by decide +kernel
theorem dX6_putBox_12 : decode cX6_putBox 12 = .ok (.iload_n 2, 1) := by decide +kernel
theorem dX6_putBox_13 : decode cX6_putBox 13 = .ok (.ifCond .ne 12, 3) := by decide +kernel
theorem dX6_putBox_16 : decode cX6_putBox 16 = .ok (.aload_n 0, 1) := by decide +kernel
theorem dX6_putBox_17 : decode cX6_putBox 17 = .ok (.getfield 15, 3) := by decide +kernel
theorem dX6_putBox_20 : decode cX6_putBox 20 = .ok (.iload_n 2, 1) := by decide +kernel
theorem dX6_putBox_21 : decode cX6_putBox 21 = .ok (.iaload, 1) := by decide +kernel
theorem dX6_putBox_22 : decode cX6_putBox 22 = .ok (.goto 15, 3) := by decide +kernel
theorem dX6_putBox_25 : decode cX6_putBox 25 = .ok (.aload_n 1, 1) := by decide +kernel
theorem dX6_putBox_26 : decode cX6_putBox 26 = .ok (.iconst 0, 1) := by decide +kernel
theorem dX6_putBox_27 : decode cX6_putBox 27 = .ok (.iaload, 1) := by decide +kernel
theorem dX6_putBox_28 : decode cX6_putBox 28 = .ok (.aload_n 0, 1) := by decide +kernel
theorem dX6_putBox_29 : decode cX6_putBox 29 = .ok (.getfield 15, 3) := by decide +kernel
theorem dX6_putBox_32 : decode cX6_putBox 32 = .ok (.iload_n 2, 1) := by decide +kernel
theorem dX6_putBox_33 : decode cX6_putBox 33 = .ok (.iaload, 1) := by decide +kernel
theorem dX6_putBox_34 : decode cX6_putBox 34 = .ok (.invokestatic 49, 3) := by decide +kernel
theorem dX6_putBox_37 : decode cX6_putBox 37 = .ok (.iastore, 1) := by decide +kernel
theorem dX6_putBox_38 : decode cX6_putBox 38 = .ok (.aload_n 1, 1) := by decide +kernel
theorem dX6_putBox_39 : decode cX6_putBox 39 = .ok (.iconst 1, 1) := by decide +kernel
theorem dX6_putBox_40 : decode cX6_putBox 40 = .ok (.iload_n 2, 1) := by decide +kernel
theorem dX6_putBox_41 : decode cX6_putBox 41 = .ok (.ifCond .ne 12, 3) := by decide +kernel
theorem dX6_putBox_44 : decode cX6_putBox 44 = .ok (.aload_n 0, 1) := by decide +kernel
theorem dX6_putBox_45 : decode cX6_putBox 45 = .ok (.getfield 18, 3) := by decide +kernel
theorem dX6_putBox_48 : decode cX6_putBox 48 = .ok (.iload_n 2, 1) := by decide +kernel
theorem dX6_putBox_49 : decode cX6_putBox 49 = .ok (.iaload, 1) := by decide +kernel
theorem dX6_putBox_50 : decode cX6_putBox 50 = .ok (.goto 15, 3) := by decide +kernel
theorem dX6_putBox_53 : decode cX6_putBox 53 = .ok (.aload_n 1, 1) := by decide +kernel
theorem dX6_putBox_54 : decode cX6_putBox 54 = .ok (.iconst 1, 1) := by decide +kernel
theorem dX6_putBox_55 : decode cX6_putBox 55 = .ok (.iaload, 1) := by decide +kernel
theorem dX6_putBox_56 : decode cX6_putBox 56 = .ok (.aload_n 0, 1) := by decide +kernel
theorem dX6_putBox_57 : decode cX6_putBox 57 = .ok (.getfield 18, 3) := by decide +kernel
theorem dX6_putBox_60 : decode cX6_putBox 60 = .ok (.iload_n 2, 1) := by decide +kernel
theorem dX6_putBox_61 : decode cX6_putBox 61 = .ok (.iaload, 1) := by decide +kernel
theorem dX6_putBox_62 : decode cX6_putBox 62 = .ok (.invokestatic 49, 3) := by decide +kernel
theorem dX6_putBox_65 : decode cX6_putBox 65 = .ok (.iastore, 1) := by decide +kernel
theorem dX6_putBox_66 : decode cX6_putBox 66 = .ok (.aload_n 1, 1) := by decide +kernel
theorem dX6_putBox_67 : decode cX6_putBox 67 = .ok (.iconst 2, 1) := by decide +kernel
theorem dX6_putBox_68 : decode cX6_putBox 68 = .ok (.iload_n 2, 1) := by decide +kernel
theorem dX6_putBox_69 : decode cX6_putBox 69 = .ok (.ifCond .ne 12, 3) := by decide +kernel
theorem dX6_putBox_72 : decode cX6_putBox 72 = .ok (.aload_n 0, 1) := by decide +kernel
theorem dX6_putBox_73 : decode cX6_putBox 73 = .ok (.getfield 15, 3) := by decide +kernel
theorem dX6_putBox_76 : decode cX6_putBox 76 = .ok (.iload_n 2, 1) := by decide +kernel
theorem dX6_putBox_77 : decode cX6_putBox 77 = .ok (.iaload, 1) := by decide +kernel
theorem dX6_putBox_78 : decode cX6_putBox 78 = .ok (.goto 15, 3) := by decide +kernel
theorem dX6_putBox_81 : decode cX6_putBox 81 = .ok (.aload_n 1, 1) := by decide +kernel
theorem dX6_putBox_82 : decode cX6_putBox 82 = .ok (.iconst 2, 1) := by decide +kernel
theorem dX6_putBox_83 : decode cX6_putBox 83 = .ok (.iaload, 1) := by decide +kernel
theorem dX6_putBox_84 : decode cX6_putBox 84 = .ok (.aload_n 0, 1) := by decide +kernel
theorem dX6_putBox_85 : decode cX6_putBox 85 = .ok (.getfield 15, 3) := by decide +kernel
theorem dX6_putBox_88 : decode cX6_putBox 88 = .ok (.iload_n 2, 1) := by decide +kernel
theorem dX6_putBox_89 : decode cX6_putBox 89 = .ok (.iaload, 1) := by decide +kernel
theorem dX6_putBox_90 : decode cX6_putBox 90 = .ok (.invokestatic 54, 3) := by decide +kernel
theorem dX6_putBox_93 : decode cX6_putBox 93 = .ok (.iastore, 1) := by decide +kernel
theorem dX6_putBox_94 : decode cX6_putBox 94 = .ok (.aload_n 1, 1) := by decide +kernel
theorem dX6_putBox_95 : decode cX6_putBox 95 = .ok (.iconst 3, 1) := by decide +kernel
theorem dX6_putBox_96 : decode cX6_putBox 96 = .ok (.iload_n 2, 1) := by decide +kernel
theorem dX6_putBox_97 : decode cX6_putBox 97 = .ok (.ifCond .ne 12, 3) := by decide +kernel
theorem dX6_putBox_100 : decode cX6_putBox 100 = .ok (.aload_n 0, 1) := by decide +kernel
theorem dX6_putBox_101 : decode cX6_putBox 101 = .ok (.getfield 18, 3) := by decide +kernel
theorem dX6_putBox_104 : decode cX6_putBox 104 = .ok (.iload_n 2, 1) := by decide +kernel
theorem dX6_putBox_105 : decode cX6_putBox 105 = .ok (.iaload, 1) := by decide +kernel
theorem dX6_putBox_106 : decode cX6_putBox 106 = .ok (.goto 15, 3) := by decide +kernel
theorem dX6_putBox_109 : decode cX6_putBox 109 = .ok (.aload_n 1, 1) := by decide +kernel
theorem dX6_putBox_110 : decode cX6_putBox 110 = .ok (.iconst 3, 1) := by decide +kernel
theorem dX6_putBox_111 : decode cX6_putBox 111 = .ok (.iaload, 1) := by decide +kernel
theorem dX6_putBox_112 : decode cX6_putBox 112 = .ok (.aload_n 0, 1) := by decide +kernel
theorem dX6_putBox_113 : decode cX6_putBox 113 = .ok (.getfield 18, 3) := by decide +kernel
theorem dX6_putBox_116 : decode cX6_putBox 116 = .ok (.iload_n 2, 1) := by decide +kernel
theorem dX6_putBox_117 : decode cX6_putBox 117 = .ok (.iaload, 1) := by decide +kernel
theorem dX6_putBox_118 : decode cX6_putBox 118 = .ok (.invokestatic 54, 3) := by decide +kernel
theorem dX6_putBox_121 : decode cX6_putBox 121 = .ok (.iastore, 1) := by decide +kernel
theorem dX6_putBox_122 : decode cX6_putBox 122 = .ok (.iinc 2 1, 3) := by decide +kernel
theorem dX6_putBox_125 : decode cX6_putBox 125 = .ok (.goto (-123), 3) := by decide +kernel
theorem dX6_putBox_128 : decode cX6_putBox 128 = .ok (.aload_n 0, 1) := by decide +kernel
theorem dX6_putBox_129 : decode cX6_putBox 129 = .ok (.getfield 25, 3) := by decide +kernel
theorem dX6_putBox_132 : decode cX6_putBox 132 = .ok (.ifCond .le 7, 3) := by decide +kernel
theorem dX6_putBox_135 : decode cX6_putBox 135 = .ok (.iconst 1, 1) := by decide +kernel
theorem dX6_putBox_136 : decode cX6_putBox 136 = .ok (.goto 4, 3) := by decide +kernel
theorem dX6_putBox_139 : decode cX6_putBox 139 = .ok (.iconst 0, 1) := by decide +kernel
theorem dX6_putBox_140 : decode cX6_putBox 140 = .ok (.ireturn, 1) := by decide +kernel
theorem dX9_readInto_0 : decode cX9_readInto 0 = .ok (.aload_n 0, 1) := by decide +kernel
theorem dX9_readInto_1 : decode cX9_readInto 1 = .ok (.aload_n 1, 1) := by decide +kernel
theorem dX9_readInto_2 : decode cX9_readInto 2 = .ok (.putfield 26, 3) := by decide +kernel
theorem dX9_readInto_5 : decode cX9_readInto 5 = .ok (.aload_n 0, 1) := by decide +kernel
theorem dX9_readInto_6 : decode cX9_readInto 6 = .ok (.getfield 26, 3) := by decide +kernel
theorem dX9_readInto_9 : decode cX9_readInto 9 = .ok (.invokevirtual 30, 3) := by decide +kernel
theorem dX9_readInto_12 : decode cX9_readInto 12 = .ok (.aload_n 0, 1) := by decide +kernel
theorem dX9_readInto_13 : decode cX9_readInto 13 = .ok (.iload_n 2, 1) := by decide +kernel
theorem dX9_readInto_14 : decode cX9_readInto 14 = .ok (.aload_n 0, 1) := by decide +kernel
theorem dX9_readInto_15 : decode cX9_readInto 15 = .ok (.getfield 22, 3) := by decide +kernel
theorem dX9_readInto_18 : decode cX9_readInto 18 = .ok (.arraylength, 1) := by decide +kernel
theorem dX9_readInto_19 : decode cX9_readInto 19 = .ok (.invokestatic 35, 3) := by decide +kernel
theorem dX9_readInto_22 : decode cX9_readInto 22 = .ok (.putfield 41, 3) := by decide +kernel
theorem dX9_readInto_25 : decode cX9_readInto 25 = .ok (.aload_n 0, 1) := by decide +kernel
theorem dX9_readInto_26 : decode cX9_readInto 26 = .ok (.iconst 0, 1) := by decide +kernel
theorem dX9_readInto_27 : decode cX9_readInto 27 = .ok (.putfield 44, 3) := by decide +kernel
theorem dX9_readInto_30 : decode cX9_readInto 30 = .ok (.aload_n 0, 1) := by decide +kernel
theorem dX9_readInto_31 : decode cX9_readInto 31 = .ok (.iconst 0, 1) := by decide +kernel
theorem dX9_readInto_32 : decode cX9_readInto 32 = .ok (.putfield 47, 3) := by decide +kernel
theorem dX9_readInto_35 : decode cX9_readInto 35 = .ok (.aload_n 0, 1) := by decide +kernel
theorem dX9_readInto_36 : decode cX9_readInto 36 = .ok (.iconst 0, 1) := by decide +kernel
theorem dX9_readInto_37 : decode cX9_readInto 37 = .ok (.putfield 50, 3) := by decide +kernel
theorem dX9_readInto_40 : decode cX9_readInto 40 = .ok (.aload_n 0, 1) := by decide +kernel
theorem dX9_readInto_41 : decode cX9_readInto 41 = .ok (.iconst 0, 1) := by decide +kernel
theorem dX9_readInto_42 : decode cX9_readInto 42 = .ok (.putfield 53, 3) := by decide +kernel
theorem dX9_readInto_45 : decode cX9_readInto 45 = .ok (.aload_n 0, 1) := by decide +kernel
theorem dX9_readInto_46 : decode cX9_readInto 46 = .ok (.iconst 0, 1) := by decide +kernel
theorem dX9_readInto_47 : decode cX9_readInto 47 = .ok (.putfield 56, 3) := by decide +kernel
theorem dX9_readInto_50 : decode cX9_readInto 50 = .ok (.aload_n 0, 1) := by decide +kernel
theorem dX9_readInto_51 : decode cX9_readInto 51 = .ok (.invokevirtual 59, 3) := by decide +kernel
theorem dX9_readInto_54 : decode cX9_readInto 54 = .ok (.istore_n 3, 1) := by decide +kernel
theorem dX9_readInto_55 : decode cX9_readInto 55 = .ok (.iconst 0, 1) := by decide +kernel
theorem dX9_readInto_56 : decode cX9_readInto 56 = .ok (.istore 4, 2) := by decide +kernel
theorem dX9_readInto_58 : decode cX9_readInto 58 = .ok (.iload_n 3, 1) := by decide +kernel
theorem dX9_readInto_59 : decode cX9_readInto 59 = .ok (.ifCond .eq 54, 3) := by decide +kernel
theorem dX9_readInto_62 : decode cX9_readInto 62 = .ok (.aload_n 0, 1) := by decide +kernel
theorem dX9_readInto_63 : decode cX9_readInto 63 = .ok (.getfield 47, 3) := by decide +kernel
theorem dX9_readInto_66 : decode cX9_readInto 66 = .ok (.ifCond .le 47, 3) := by decide +kernel
theorem dX9_readInto_69 : decode cX9_readInto 69 = .ok (.iload 4, 2) := by decide +kernel
theorem dX9_readInto_71 : decode cX9_readInto 71 = .ok (.aload_n 0, 1) := by decide +kernel
theorem dX9_readInto_72 : decode cX9_readInto 72 = .ok (.getfield 41, 3) := by decide +kernel
theorem dX9_readInto_75 : decode cX9_readInto 75 = .ok (.if_icmp .gt 38, 3) := by decide +kernel
theorem dX9_readInto_78 : decode cX9_readInto 78 = .ok (.aload_n 0, 1) := by decide +kernel
theorem dX9_readInto_79 : decode cX9_readInto 79 = .ok (.getfield 47, 3) := by decide +kernel
theorem dX9_readInto_82 : decode cX9_readInto 82 = .ok (.istore 5, 2) := by decide +kernel
theorem dX9_readInto_84 : decode cX9_readInto 84 = .ok (.aload_n 0, 1) := by decide +kernel
theorem dX9_readInto_85 : decode cX9_readInto 85 = .ok (.invokevirtual 63, 3) := by decide +kernel
theorem dX9_readInto_88 : decode cX9_readInto 88 = .ok (.istore_n 3, 1) := by decide +kernel
theorem dX9_readInto_89 : decode cX9_readInto 89 = .ok (.iload_n 3, 1) := by decide +kernel
theorem dX9_readInto_90 : decode cX9_readInto 90 = .ok (.ifCond .eq 17, 3) := by decide +kernel
theorem dX9_readInto_93 : decode cX9_readInto 93 = .ok (.aload_n 0, 1) := by decide +kernel
theorem dX9_readInto_94 : decode cX9_readInto 94 = .ok (.getfield 47, 3) := by decide +kernel
theorem dX9_readInto_97 : decode cX9_readInto 97 = .ok (.iload 5, 2) := by decide +kernel
theorem dX9_readInto_99 : decode cX9_readInto 99 = .ok (.if_icmp .ne 8, 3) := by decide +kernel
theorem dX9_readInto_102 : decode cX9_readInto 102 = .ok (.aload_n 0, 1) := by decide +kernel
theorem dX9_readInto_103 : decode cX9_readInto 103 = .ok (.invokevirtual 66, 3) := by decide +kernel
theorem dX9_readInto_106 : decode cX9_readInto 106 = .ok (.istore_n 3, 1) := by decide +kernel
theorem dX9_readInto_107 : decode cX9_readInto 107 = .ok (.iinc 4 1, 3) := by decide +kernel
theorem dX9_readInto_110 : decode cX9_readInto 110 = .ok (.goto (-52), 3) := by decide +kernel
theorem dX9_readInto_113 : decode cX9_readInto 113 = .ok (.aload_n 0, 1) := by decide +kernel
theorem dX9_readInto_114 : decode cX9_readInto 114 = .ok (.invokevirtual 69, 3) := by decide +kernel
theorem dX9_readInto_117 : decode cX9_readInto 117 = .ok (.iload_n 3, 1) := by decide +kernel
theorem dX9_readInto_118 : decode cX9_readInto 118 = .ok (.ifCond .eq 27, 3) := by decide +kernel
theorem dX9_readInto_121 : decode cX9_readInto 121 = .ok (.aload_n 0, 1) := by decide +kernel
theorem dX9_readInto_122 : decode cX9_readInto 122 = .ok (.getfield 44, 3) := by decide +kernel
theorem dX9_readInto_125 : decode cX9_readInto 125 = .ok (.aload_n 0, 1) := by decide +kernel
theorem dX9_readInto_126 : decode cX9_readInto 126 = .ok (.getfield 41, 3) := by decide +kernel
theorem dX9_readInto_129 : decode cX9_readInto 129 = .ok (.if_icmp .ge 12, 3) := by decide +kernel
theorem dX9_readInto_132 : decode cX9_readInto 132 = .ok (.aload_n 0, 1) := by decide +kernel
theorem dX9_readInto_133 : decode cX9_readInto 133 = .ok (.bipush 8, 2) := by decide +kernel
theorem dX9_readInto_135 : decode cX9_readInto 135 = .ok (.invokevirtual 72, 3) := by decide +kernel
theorem dX9_readInto_138 : decode cX9_readInto 138 = .ok (.ifCond .eq 7, 3) := by decide +kernel
theorem dX9_readInto_141 : decode cX9_readInto 141 = .ok (.iconst 1, 1) := by decide +kernel
theorem dX9_readInto_142 : decode cX9_readInto 142 = .ok (.goto 4, 3) := by decide +kernel
theorem dX9_readInto_145 : decode cX9_readInto 145 = .ok (.iconst 0, 1) := by decide +kernel
theorem dX9_readInto_146 : decode cX9_readInto 146 = .ok (.ireturn, 1) := by decide +kernel
theorem dX9_fail_0 : decode cX9_fail 0 = .ok (.aload_n 0, 1) := by decide +kernel
theorem dX9_fail_1 : decode cX9_fail 1 = .ok (.iload_n 1, 1) := by decide +kernel
theorem dX9_fail_2 : decode cX9_fail 2 = .ok (.putfield 53, 3) := by decide +kernel
theorem dX9_fail_5 : decode cX9_fail 5 = .ok (.aload_n 0, 1) := by decide +kernel
theorem dX9_fail_6 : decode cX9_fail 6 = .ok (.aload_n 0, 1) := by decide +kernel
theorem dX9_fail_7 : decode cX9_fail 7 = .ok (.getfield 44, 3) := by decide +kernel
theorem dX9_fail_10 : decode cX9_fail 10 = .ok (.putfield 56, 3) := by decide +kernel
theorem dX9_fail_13 : decode cX9_fail 13 = .ok (.iconst 0, 1) := by decide +kernel
theorem dX9_fail_14 : decode cX9_fail 14 = .ok (.ireturn, 1) := by decide +kernel
theorem dX9_unexpected_0 : decode cX9_unexpected 0 = .ok (.aload_n 0, 1) := by decide +kernel
theorem dX9_unexpected_1 : decode cX9_unexpected 1 = .ok (.aload_n 0, 1) := by decide +kernel
theorem dX9_unexpected_2 : decode cX9_unexpected 2 = .ok (.getfield 44, 3) := by decide +kernel
theorem dX9_unexpected_5 : decode cX9_unexpected 5 = .ok (.invokevirtual 76, 3) := by decide +kernel
theorem dX9_unexpected_8 : decode cX9_unexpected 8 = .ok (.istore_n 1, 1) := by decide +kernel
theorem dX9_unexpected_9 : decode cX9_unexpected 9 = .ok (.iload_n 1, 1) := by decide +kernel
theorem dX9_unexpected_10 : decode cX9_unexpected 10 = .ok (.ifCond .lt 35, 3) := by decide +kernel
theorem dX9_unexpected_13 : decode cX9_unexpected 13 = .ok (.iload_n 1, 1) := by decide +kernel
theorem dX9_unexpected_14 : decode cX9_unexpected 14 = .ok (.invokestatic 80, 3) := by decide +kernel
theorem dX9_unexpected_17 : decode cX9_unexpected 17 = .ok (.ifCond .ne 28, 3) := by decide +kernel
theorem dX9_unexpected_20 : decode cX9_unexpected 20 = .ok (.iload_n 1, 1) := by decide +kernel
theorem dX9_unexpected_21 : decode cX9_unexpected 21 = .ok (.invokestatic 83, 3) := by decide +kernel
theorem dX9_unexpected_24 : decode cX9_unexpected 24 = .ok (.ifCond .ne 21, 3) := by decide +kernel
theorem dX9_unexpected_27 : decode cX9_unexpected 27 = .ok (.iload_n 1, 1) := by decide +kernel
theorem dX9_unexpected_28 : decode cX9_unexpected 28 = .ok (.bipush 40, 2) := by decide +kernel
theorem dX9_unexpected_30 : decode cX9_unexpected 30 = .ok (.if_icmp .eq 15, 3) := by decide +kernel
theorem dX9_unexpected_33 : decode cX9_unexpected 33 = .ok (.iload_n 1, 1) := by decide +kernel
theorem dX9_unexpected_34 : decode cX9_unexpected 34 = .ok (.bipush 41, 2) := by decide +kernel
theorem dX9_unexpected_36 : decode cX9_unexpected 36 = .ok (.if_icmp .eq 9, 3) := by decide +kernel
theorem dX9_unexpected_39 : decode cX9_unexpected 39 = .ok (.iload_n 1, 1) := by decide +kernel
theorem dX9_unexpected_40 : decode cX9_unexpected 40 = .ok (.bipush 44, 2) := by decide +kernel
theorem dX9_unexpected_42 : decode cX9_unexpected 42 = .ok (.if_icmp .ne 7, 3) := by decide +kernel
theorem dX9_unexpected_45 : decode cX9_unexpected 45 = .ok (.iconst 1, 1) := by decide +kernel
theorem dX9_unexpected_46 : decode cX9_unexpected 46 = .ok (.goto 4, 3) := by decide +kernel
theorem dX9_unexpected_49 : decode cX9_unexpected 49 = .ok (.iconst 0, 1) := by decide +kernel
theorem dX9_unexpected_50 : decode cX9_unexpected 50 = .ok (.istore_n 2, 1) := by decide +kernel
theorem dX9_unexpected_51 : decode cX9_unexpected 51 = .ok (.aload_n 0, 1) := by decide +kernel
theorem dX9_unexpected_52 : decode cX9_unexpected 52 = .ok (.iload_n 2, 1) := by decide +kernel
theorem dX9_unexpected_53 : decode cX9_unexpected 53 = .ok (.ifCond .eq 7, 3) := by decide +kernel
theorem dX9_unexpected_56 : decode cX9_unexpected 56 = .ok (.iconst 3, 1) := by decide +kernel
theorem dX9_unexpected_57 : decode cX9_unexpected 57 = .ok (.goto 4, 3) := by decide +kernel
theorem dX9_unexpected_60 : decode cX9_unexpected 60 = .ok (.iconst 1, 1) := by decide +kernel
theorem dX9_unexpected_61 : decode cX9_unexpected 61 = .ok (.invokevirtual 72, 3) := by decide +kernel
theorem dX9_unexpected_64 : decode cX9_unexpected 64 = .ok (.ireturn, 1) := by decide +kernel
theorem dX9_signAt_0 : decode cX9_signAt 0 = .ok (.iload_n 1, 1) := by decide +kernel
theorem dX9_signAt_1 : decode cX9_signAt 1 = .ok (.ifCond .lt 24, 3) := by decide +kernel
theorem dX9_signAt_4 : decode cX9_signAt 4 = .ok (.iload_n 1, 1) := by decide +kernel
theorem dX9_signAt_5 : decode cX9_signAt 5 = .ok (.aload_n 0, 1) := by decide +kernel
theorem dX9_signAt_6 : decode cX9_signAt 6 = .ok (.getfield 41, 3) := by decide +kernel
theorem dX9_signAt_9 : decode cX9_signAt 9 = .ok (.if_icmp .ge 16, 3) := by decide +kernel
theorem dX9_signAt_12 : decode cX9_signAt 12 = .ok (.aload_n 0, 1) := by decide +kernel
theorem dX9_signAt_13 : decode cX9_signAt 13 = .ok (.getfield 22, 3) := by decide +kernel
theorem dX9_signAt_16 : decode cX9_signAt 16 = .ok (.iload_n 1, 1) := by decide +kernel
theorem dX9_signAt_17 : decode cX9_signAt 17 = .ok (.baload, 1) := by decide +kernel
theorem dX9_signAt_18 : decode cX9_signAt 18 = .ok (.sipush 255, 3) := by decide +kernel
theorem dX9_signAt_21 : decode cX9_signAt 21 = .ok (.iand, 1) := by decide +kernel
theorem dX9_signAt_22 : decode cX9_signAt 22 = .ok (.goto 4, 3) := by decide +kernel
theorem dX9_signAt_25 : decode cX9_signAt 25 = .ok (.iconst (-1), 1) := by decide +kernel
theorem dX9_signAt_26 : decode cX9_signAt 26 = .ok (.ireturn, 1) := by decide +kernel
theorem dX9_skipBlanks_0 : decode cX9_skipBlanks 0 = .ok (.aload_n 0, 1) := by decide +kernel
theorem dX9_skipBlanks_1 : decode cX9_skipBlanks 1 = .ok (.getfield 44, 3) := by decide +kernel
theorem dX9_skipBlanks_4 : decode cX9_skipBlanks 4 = .ok (.aload_n 0, 1) := by decide +kernel
theorem dX9_skipBlanks_5 : decode cX9_skipBlanks 5 = .ok (.getfield 41, 3) := by decide +kernel
theorem dX9_skipBlanks_8 : decode cX9_skipBlanks 8 = .ok (.if_icmp .ge 31, 3) := by decide +kernel
theorem dX9_skipBlanks_11 : decode cX9_skipBlanks 11 = .ok (.aload_n 0, 1) := by decide +kernel
theorem dX9_skipBlanks_12 : decode cX9_skipBlanks 12 = .ok (.getfield 22, 3) := by decide +kernel
theorem dX9_skipBlanks_15 : decode cX9_skipBlanks 15 = .ok (.aload_n 0, 1) := by decide +kernel
theorem dX9_skipBlanks_16 : decode cX9_skipBlanks 16 = .ok (.getfield 44, 3) := by decide +kernel
theorem dX9_skipBlanks_19 : decode cX9_skipBlanks 19 = .ok (.baload, 1) := by decide +kernel
theorem dX9_skipBlanks_20 : decode cX9_skipBlanks 20 = .ok (.invokestatic 86, 3) := by decide +kernel
theorem dX9_skipBlanks_23 : decode cX9_skipBlanks 23 = .ok (.ifCond .eq 16, 3) := by decide +kernel
theorem dX9_skipBlanks_26 : decode cX9_skipBlanks 26 = .ok (.aload_n 0, 1) := by decide +kernel
theorem dX9_skipBlanks_27 : decode cX9_skipBlanks 27 = .ok (.dup, 1) := by decide +kernel
theorem dX9_skipBlanks_28 : decode cX9_skipBlanks 28 = .ok (.getfield 44, 3) := by decide +kernel
theorem dX9_skipBlanks_31 : decode cX9_skipBlanks 31 = .ok (.iconst 1, 1) := by decide +kernel
theorem dX9_skipBlanks_32 : decode cX9_skipBlanks 32 = .ok (.iadd, 1) := by decide +kernel
theorem dX9_skipBlanks_33 : decode cX9_skipBlanks 33 = .ok (.putfield 44, 3) := by decide +kernel
theorem dX9_skipBlanks_36 : decode cX9_skipBlanks 36 = .ok (.goto (-36), 3) := by decide +kernel
theorem dX9_skipBlanks_39 : decode cX9_skipBlanks 39 = .ok (.return_, 1) := by decide +kernel
theorem dX9_isBlank_0 : decode cX9_isBlank 0 = .ok (.iload_n 0, 1) := by decide +kernel
theorem dX9_isBlank_1 : decode cX9_isBlank 1 = .ok (.bipush 32, 2) := by decide +kernel
theorem dX9_isBlank_3 : decode cX9_isBlank 3 = .ok (.if_icmp .eq 21, 3) := by decide +kernel
theorem dX9_isBlank_6 : decode cX9_isBlank 6 = .ok (.iload_n 0, 1) := by decide +kernel
theorem dX9_isBlank_7 : decode cX9_isBlank 7 = .ok (.bipush 9, 2) := by decide +kernel
theorem dX9_isBlank_9 : decode cX9_isBlank 9 = .ok (.if_icmp .eq 15, 3) := by decide +kernel
theorem dX9_isBlank_12 : decode cX9_isBlank 12 = .ok (.iload_n 0, 1) := by decide +kernel
theorem dX9_isBlank_13 : decode cX9_isBlank 13 = .ok (.bipush 10, 2) := by decide +kernel
theorem dX9_isBlank_15 : decode cX9_isBlank 15 = .ok (.if_icmp .eq 9, 3) := by decide +kernel
theorem dX9_isBlank_18 : decode cX9_isBlank 18 = .ok (.iload_n 0, 1) := by decide +kernel
theorem dX9_isBlank_19 : decode cX9_isBlank 19 = .ok (.bipush 13, 2) := by decide +kernel
theorem dX9_isBlank_21 : decode cX9_isBlank 21 = .ok (.if_icmp .ne 7, 3) := by decide +kernel
theorem dX9_isBlank_24 : decode cX9_isBlank 24 = .ok (.iconst 1, 1) := by decide +kernel
theorem dX9_isBlank_25 : decode cX9_isBlank 25 = .ok (.goto 4, 3) := by decide +kernel
theorem dX9_isBlank_28 : decode cX9_isBlank 28 = .ok (.iconst 0, 1) := by decide +kernel
theorem dX9_isBlank_29 : decode cX9_isBlank 29 = .ok (.ireturn, 1) := by decide +kernel
theorem dX9_isLetter_0 : decode cX9_isLetter 0 = .ok (.iload_n 0, 1) := by decide +kernel
theorem dX9_isLetter_1 : decode cX9_isLetter 1 = .ok (.bipush 65, 2) := by decide +kernel
theorem dX9_isLetter_3 : decode cX9_isLetter 3 = .ok (.if_icmp .lt 9, 3) := by decide +kernel
theorem dX9_isLetter_6 : decode cX9_isLetter 6 = .ok (.iload_n 0, 1) := by decide +kernel
theorem dX9_isLetter_7 : decode cX9_isLetter 7 = .ok (.bipush 90, 2) := by decide +kernel
theorem dX9_isLetter_9 : decode cX9_isLetter 9 = .ok (.if_icmp .le 15, 3) := by decide +kernel
theorem dX9_isLetter_12 : decode cX9_isLetter 12 = .ok (.iload_n 0, 1) := by decide +kernel
theorem dX9_isLetter_13 : decode cX9_isLetter 13 = .ok (.bipush 97, 2) := by decide +kernel
theorem dX9_isLetter_15 : decode cX9_isLetter 15 = .ok (.if_icmp .lt 13, 3) := by decide +kernel
theorem dX9_isLetter_18 : decode cX9_isLetter 18 = .ok (.iload_n 0, 1) := by decide +kernel
theorem dX9_isLetter_19 : decode cX9_isLetter 19 = .ok (.bipush 122, 2) := by decide +kernel
theorem dX9_isLetter_21 : decode cX9_isLetter 21 = .ok (.if_icmp .gt 7, 3) := by decide +kernel
theorem dX9_isLetter_24 : decode cX9_isLetter 24 = .ok (.iconst 1, 1) := by decide +kernel
theorem dX9_isLetter_25 : decode cX9_isLetter 25 = .ok (.goto 4, 3) := by decide +kernel
theorem dX9_isLetter_28 : decode cX9_isLetter 28 = .ok (.iconst 0, 1) := by decide +kernel
theorem dX9_isLetter_29 : decode cX9_isLetter 29 = .ok (.ireturn, 1) := by decide +kernel
theorem dX9_isDigit_0 : decode cX9_isDigit 0 = .ok (.iload_n 0, 1) := by decide +kernel
theorem dX9_isDigit_1 : decode cX9_isDigit 1 = .ok (.bipush 48, 2) := by decide +kernel
theorem dX9_isDigit_3 : decode cX9_isDigit 3 = .ok (.if_icmp .lt 13, 3) := by decide +kernel
theorem dX9_isDigit_6 : decode cX9_isDigit 6 = .ok (.iload_n 0, 1) := by decide +kernel
theorem dX9_isDigit_7 : decode cX9_isDigit 7 = .ok (.bipush 57, 2) := by decide +kernel
theorem dX9_isDigit_9 : decode cX9_isDigit 9 = .ok (.if_icmp .gt 7, 3) := by decide +kernel
theorem dX9_isDigit_12 : decode cX9_isDigit 12 = .ok (.iconst 1, 1) := by decide +kernel
theorem dX9_isDigit_13 : decode cX9_isDigit 13 = .ok (.goto 4, 3) := by decide +kernel
theorem dX9_isDigit_16 : decode cX9_isDigit 16 = .ok (.iconst 0, 1) := by decide +kernel
theorem dX9_isDigit_17 : decode cX9_isDigit 17 = .ok (.ireturn, 1) := by decide +kernel
theorem dX9_beginsNumber_0 : decode cX9_beginsNumber 0 = .ok (.iload_n 0, 1) := by decide +kernel
theorem dX9_beginsNumber_1 : decode cX9_beginsNumber 1 = .ok (.bipush 48, 2) := by decide +kernel
theorem dX9_beginsNumber_3 : decode cX9_beginsNumber 3 = .ok (.if_icmp .lt 9, 3) := by decide +kernel
theorem dX9_beginsNumber_6 : decode cX9_beginsNumber 6 = .ok (.iload_n 0, 1) := by decide +kernel
theorem dX9_beginsNumber_7 : decode cX9_beginsNumber 7 = .ok (.bipush 57, 2) := by decide +kernel
theorem dX9_beginsNumber_9 : decode cX9_beginsNumber 9 = .ok (.if_icmp .le 21, 3) := by decide +kernel
theorem dX9_beginsNumber_12 : decode cX9_beginsNumber 12 = .ok (.iload_n 0, 1) := by decide +kernel
theorem dX9_beginsNumber_13 : decode cX9_beginsNumber 13 = .ok (.bipush 43, 2) := by decide +kernel
theorem dX9_beginsNumber_15 : decode cX9_beginsNumber 15 = .ok (.if_icmp .eq 15, 3) := by decide +kernel
theorem dX9_beginsNumber_18 : decode cX9_beginsNumber 18 = .ok (.iload_n 0, 1) := by decide +kernel
theorem dX9_beginsNumber_19 : decode cX9_beginsNumber 19 = .ok (.bipush 45, 2) := by decide +kernel
theorem dX9_beginsNumber_21 : decode cX9_beginsNumber 21 = .ok (.if_icmp .eq 9, 3) := by decide +kernel
theorem dX9_beginsNumber_24 : decode cX9_beginsNumber 24 = .ok (.iload_n 0, 1) := by decide +kernel
theorem dX9_beginsNumber_25 : decode cX9_beginsNumber 25 = .ok (.bipush 46, 2) := by decide +kernel
theorem dX9_beginsNumber_27 : decode cX9_beginsNumber 27 = .ok (.if_icmp .ne 7, 3) := by decide +kernel
theorem dX9_beginsNumber_30 : decode cX9_beginsNumber 30 = .ok (.iconst 1, 1) := by decide +kernel
theorem dX9_beginsNumber_31 : decode cX9_beginsNumber 31 = .ok (.goto 4, 3) := by decide +kernel
theorem dX9_beginsNumber_34 : decode cX9_beginsNumber 34 = .ok (.iconst 0, 1) := by decide +kernel
theorem dX9_beginsNumber_35 : decode cX9_beginsNumber 35 = .ok (.ireturn, 1) := by decide +kernel
theorem dX9_behindWord_0 : decode cX9_behindWord 0 = .ok (.aload_n 0, 1) := by decide +kernel
theorem dX9_behindWord_1 : decode cX9_behindWord 1 = .ok (.getfield 44, 3) := by decide +kernel
theorem dX9_behindWord_4 : decode cX9_behindWord 4 = .ok (.istore_n 1, 1) := by decide +kernel
theorem dX9_behindWord_5 : decode cX9_behindWord 5 = .ok (.iload_n 1, 1) := by decide +kernel
theorem dX9_behindWord_6 : decode cX9_behindWord 6 = .ok (.aload_n 0, 1) := by decide +kernel
theorem dX9_behindWord_7 : decode cX9_behindWord 7 = .ok (.getfield 41, 3) := by decide +kernel
theorem dX9_behindWord_10 : decode cX9_behindWord 10 = .ok (.if_icmp .ge 21, 3) := by decide +kernel
theorem dX9_behindWord_13 : decode cX9_behindWord 13 = .ok (.aload_n 0, 1) := by decide +kernel
theorem dX9_behindWord_14 : decode cX9_behindWord 14 = .ok (.getfield 22, 3) := by decide +kernel
theorem dX9_behindWord_17 : decode cX9_behindWord 17 = .ok (.iload_n 1, 1) := by decide +kernel
theorem dX9_behindWord_18 : decode cX9_behindWord 18 = .ok (.baload, 1) := by decide +kernel
theorem dX9_behindWord_19 : decode cX9_behindWord 19 = .ok (.invokestatic 80, 3) := by decide +kernel
theorem dX9_behindWord_22 : decode cX9_behindWord 22 = .ok (.ifCond .eq 9, 3) := by decide +kernel
theorem dX9_behindWord_25 : decode cX9_behindWord 25 = .ok (.iinc 1 1, 3) := by decide +kernel
theorem dX9_behindWord_28 : decode cX9_behindWord 28 = .ok (.goto (-23), 3) := by decide +kernel
theorem dX9_behindWord_31 : decode cX9_behindWord 31 = .ok (.iload_n 1, 1) := by decide +kernel
theorem dX9_behindWord_32 : decode cX9_behindWord 32 = .ok (.ireturn, 1) := by decide +kernel
theorem dX9_isWord_0 : decode cX9_isWord 0 = .ok (.aload_n 0, 1) := by decide +kernel
theorem dX9_isWord_1 : decode cX9_isWord 1 = .ok (.invokevirtual 89, 3) := by decide +kernel
theorem dX9_isWord_4 : decode cX9_isWord 4 = .ok (.aload_n 0, 1) := by decide +kernel
theorem dX9_isWord_5 : decode cX9_isWord 5 = .ok (.getfield 44, 3) := by decide +kernel
theorem dX9_isWord_8 : decode cX9_isWord 8 = .ok (.isub, 1) := by decide +kernel
theorem dX9_isWord_9 : decode cX9_isWord 9 = .ok (.aload_n 1, 1) := by decide +kernel
theorem dX9_isWord_10 : decode cX9_isWord 10 = .ok (.invokevirtual 93, 3) := by decide +kernel
theorem dX9_isWord_13 : decode cX9_isWord 13 = .ok (.if_icmp .eq 5, 3) := by decide +kernel
theorem dX9_isWord_16 : decode cX9_isWord 16 = .ok (.iconst 0, 1) := by decide +kernel
theorem dX9_isWord_17 : decode cX9_isWord 17 = .ok (.ireturn, 1) := by decide +kernel
theorem dX9_isWord_18 : decode cX9_isWord 18 = .ok (.iconst 0, 1) := by decide +kernel
theorem dX9_isWord_19 : decode cX9_isWord 19 = .ok (.istore_n 2, 1) := by decide +kernel
theorem dX9_isWord_20 : decode cX9_isWord 20 = .ok (.iload_n 2, 1) := by decide +kernel
theorem dX9_isWord_21 : decode cX9_isWord 21 = .ok (.aload_n 1, 1) := by decide +kernel
theorem dX9_isWord_22 : decode cX9_isWord 22 = .ok (.invokevirtual 93, 3) := by decide +kernel
theorem dX9_isWord_25 : decode cX9_isWord 25 = .ok (.if_icmp .ge 32, 3) := by decide +kernel
theorem dX9_isWord_28 : decode cX9_isWord 28 = .ok (.aload_n 0, 1) := by decide +kernel
theorem dX9_isWord_29 : decode cX9_isWord 29 = .ok (.aload_n 0, 1) := by decide +kernel
theorem dX9_isWord_30 : decode cX9_isWord 30 = .ok (.getfield 44, 3) := by decide +kernel
theorem dX9_isWord_33 : decode cX9_isWord 33 = .ok (.iload_n 2, 1) := by decide +kernel
theorem dX9_isWord_34 : decode cX9_isWord 34 = .ok (.iadd, 1) := by decide +kernel
theorem dX9_isWord_35 : decode cX9_isWord 35 = .ok (.invokevirtual 76, 3) := by decide +kernel
theorem dX9_isWord_38 : decode cX9_isWord 38 = .ok (.bipush (-33), 2) := by decide +kernel
theorem dX9_isWord_40 : decode cX9_isWord 40 = .ok (.iand, 1) := by decide +kernel
theorem dX9_isWord_41 : decode cX9_isWord 41 = .ok (.aload_n 1, 1) := by decide +kernel
theorem dX9_isWord_42 : decode cX9_isWord 42 = .ok (.iload_n 2, 1) := by decide +kernel
theorem dX9_isWord_43 : decode cX9_isWord 43 = .ok (.invokevirtual 97, 3) := by decide +kernel
theorem dX9_isWord_46 : decode cX9_isWord 46 = .ok (.if_icmp .eq 5, 3) := by decide +kernel
theorem dX9_isWord_49 : decode cX9_isWord 49 = .ok (.iconst 0, 1) := by decide +kernel
theorem dX9_isWord_50 : decode cX9_isWord 50 = .ok (.ireturn, 1) := by decide +kernel
theorem dX9_isWord_51 : decode cX9_isWord 51 = .ok (.iinc 2 1, 3) := by decide +kernel
theorem dX9_isWord_54 : decode cX9_isWord 54 = .ok (.goto (-34), 3) := by decide +kernel
theorem dX9_isWord_57 : decode cX9_isWord 57 = .ok (.iconst 1, 1) := by decide +kernel
theorem dX9_isWord_58 : decode cX9_isWord 58 = .ok (.ireturn, 1) := by decide +kernel
theorem dX9_kindOfWord_0 : decode cX9_kindOfWord 0 = .ok (.iconst 1, 1) := by decide +kernel
theorem dX9_kindOfWord_1 : decode cX9_kindOfWord 1 = .ok (.istore_n 1, 1) := by decide +kernel
theorem dX9_kindOfWord_2 : decode cX9_kindOfWord 2 = .ok (.iload_n 1, 1) := by decide +kernel
theorem dX9_kindOfWord_3 : decode cX9_kindOfWord 3 = .ok (.bipush 7, 2) := by decide +kernel
theorem dX9_kindOfWord_5 : decode cX9_kindOfWord 5 = .ok (.if_icmp .gt 22, 3) := by decide +kernel
theorem dX9_kindOfWord_8 : decode cX9_kindOfWord 8 = .ok (.aload_n 0, 1) := by decide +kernel
theorem dX9_kindOfWord_9 : decode cX9_kindOfWord 9 = .ok (.iload_n 1, 1) := by decide +kernel
theorem dX9_kindOfWord_10 : decode cX9_kindOfWord 10 = .ok (.invokestatic 101, 3) := by decide +kernel
theorem dX9_kindOfWord_13 : decode cX9_kindOfWord 13 = .ok (.invokevirtual 107, 3) := by decide +kernel
theorem dX9_kindOfWord_16 : decode cX9_kindOfWord 16 = .ok (.ifCond .eq 5, 3) := by decide +kernel
theorem dX9_kindOfWord_19 : decode cX9_kindOfWord 19 = .ok (.iload_n 1, 1) := by decide +kernel
theorem dX9_kindOfWord_20 : decode cX9_kindOfWord 20 = .ok (.ireturn, 1) := by decide +kernel
theorem dX9_kindOfWord_21 : decode cX9_kindOfWord 21 = .ok (.iinc 1 1, 3) := by decide +kernel
theorem dX9_kindOfWord_24 : decode cX9_kindOfWord 24 = .ok (.goto (-22), 3) := by decide +kernel
theorem dX9_kindOfWord_27 : decode cX9_kindOfWord 27 = .ok (.iconst 0, 1) := by decide +kernel
theorem dX9_kindOfWord_28 : decode cX9_kindOfWord 28 = .ok (.ireturn, 1) := by decide +kernel
theorem dX9_readShape_0 : decode cX9_readShape 0 = .ok (.aload_n 0, 1) := by decide +kernel
theorem dX9_readShape_1 : decode cX9_readShape 1 = .ok (.invokevirtual 69, 3) := by decide +kernel
theorem dX9_readShape_4 : decode cX9_readShape 4 = .ok (.aload_n 0, 1) := by decide +kernel
theorem dX9_readShape_5 : decode cX9_readShape 5 = .ok (.aload_n 0, 1) := by decide +kernel
theorem dX9_readShape_6 : decode cX9_readShape 6 = .ok (.getfield 44, 3) := by decide +kernel
theorem dX9_readShape_9 : decode cX9_readShape 9 = .ok (.invokevirtual 76, 3) := by decide +kernel
theorem dX9_readShape_12 : decode cX9_readShape 12 = .ok (.invokestatic 80, 3) := by decide +kernel
theorem dX9_readShape_15 : decode cX9_readShape 15 = .ok (.ifCond .ne 8, 3) := by decide +kernel
theorem dX9_readShape_18 : decode cX9_readShape 18 = .ok (.aload_n 0, 1) := by decide +kernel
theorem dX9_readShape_19 : decode cX9_readShape 19 = .ok (.invokevirtual 111, 3) := by decide +kernel
theorem dX9_readShape_22 : decode cX9_readShape 22 = .ok (.ireturn, 1) := by decide +kernel
theorem dX9_readShape_23 : decode cX9_readShape 23 = .ok (.aload_n 0, 1) := by decide +kernel
theorem dX9_readShape_24 : decode cX9_readShape 24 = .ok (.invokevirtual 114, 3) := by decide +kernel
theorem dX9_readShape_27 : decode cX9_readShape 27 = .ok (.istore_n 1, 1) := by decide +kernel
theorem dX9_readShape_28 : decode cX9_readShape 28 = .ok (.iload_n 1, 1) := by decide +kernel
theorem dX9_readShape_29 : decode cX9_readShape 29 = .ok (.ifCond .ne 9, 3) := by decide +kernel
theorem dX9_readShape_32 : decode cX9_readShape 32 = .ok (.aload_n 0, 1) := by decide +kernel
theorem dX9_readShape_33 : decode cX9_readShape 33 = .ok (.iconst 2, 1) := by decide +kernel
theorem dX9_readShape_34 : decode cX9_readShape 34 = .ok (.invokevirtual 72, 3) := by decide +kernel
theorem dX9_readShape_37 : decode cX9_readShape 37 = .ok (.ireturn, 1) := by decide +kernel
theorem dX9_readShape_38 : decode cX9_readShape 38 = .ok (.iload_n 1, 1) := by decide +kernel
theorem dX9_readShape_39 : decode cX9_readShape 39 = .ok (.bipush 7, 2) := by decide +kernel
theorem dX9_readShape_41 : decode cX9_readShape 41 = .ok (.if_icmp .ne 19, 3) := by decide +kernel
theorem dX9_readShape_44 : decode cX9_readShape 44 = .ok (.aload_n 0, 1) := by decide +kernel
theorem dX9_readShape_45 : decode cX9_readShape 45 = .ok (.getfield 50, 3) := by decide +kernel
theorem dX9_readShape_48 : decode cX9_readShape 48 = .ok (.bipush 50, 2) := by decide +kernel
theorem dX9_readShape_50 : decode cX9_readShape 50 = .ok (.if_icmp .lt 10, 3) := by decide +kernel
theorem dX9_readShape_53 : decode cX9_readShape 53 = .ok (.aload_n 0, 1) := by decide +kernel
theorem dX9_readShape_54 : decode cX9_readShape 54 = .ok (.bipush 6, 2) := by decide +kernel
theorem dX9_readShape_56 : decode cX9_readShape 56 = .ok (.invokevirtual 72, 3) := by decide +kernel
theorem dX9_readShape_59 : decode cX9_readShape 59 = .ok (.ireturn, 1) := by decide +kernel
theorem dX9_readShape_60 : decode cX9_readShape 60 = .ok (.aload_n 0, 1) := by decide +kernel
theorem dX9_readShape_61 : decode cX9_readShape 61 = .ok (.aload_n 0, 1) := by decide +kernel
theorem dX9_readShape_62 : decode cX9_readShape 62 = .ok (.invokevirtual 89, 3) := by decide +kernel
theorem dX9_readShape_65 : decode cX9_readShape 65 = .ok (.putfield 44, 3) := by decide +kernel
theorem dX9_readShape_68 : decode cX9_readShape 68 = .ok (.aload_n 0, 1) := by decide +kernel
theorem dX9_readShape_69 : decode cX9_readShape 69 = .ok (.invokevirtual 69, 3) := by decide +kernel
theorem dX9_readShape_72 : decode cX9_readShape 72 = .ok (.aload_n 0, 1) := by decide +kernel
theorem dX9_readShape_73 : decode cX9_readShape 73 = .ok (.getfield 26, 3) := by decide +kernel
theorem dX9_readShape_76 : decode cX9_readShape 76 = .ok (.iload_n 1, 1) := by decide +kernel
theorem dX9_readShape_77 : decode cX9_readShape 77 = .ok (.iconst 0, 1) := by decide +kernel
theorem dX9_readShape_78 : decode cX9_readShape 78 = .ok (.invokevirtual 117, 3) := by decide +kernel
theorem dX9_readShape_81 : decode cX9_readShape 81 = .ok (.ifCond .eq 11, 3) := by decide +kernel
theorem dX9_readShape_84 : decode cX9_readShape 84 = .ok (.aload_n 0, 1) := by decide +kernel
theorem dX9_readShape_85 : decode cX9_readShape 85 = .ok (.iload_n 1, 1) := by decide +kernel
theorem dX9_readShape_86 : decode cX9_readShape 86 = .ok (.invokevirtual 121, 3) := by decide +kernel
theorem dX9_readShape_89 : decode cX9_readShape 89 = .ok (.goto 9, 3) := by decide +kernel
theorem dX9_readShape_92 : decode cX9_readShape 92 = .ok (.aload_n 0, 1) := by decide +kernel
theorem dX9_readShape_93 : decode cX9_readShape 93 = .ok (.bipush 7, 2) := by decide +kernel
theorem dX9_readShape_95 : decode cX9_readShape 95 = .ok (.invokevirtual 72, 3) := by decide +kernel
theorem dX9_readShape_98 : decode cX9_readShape 98 = .ok (.ireturn, 1) := by decide +kernel
theorem dX9_readItem_0 : decode cX9_readItem 0 = .ok (.aload_n 0, 1) := by decide +kernel
theorem dX9_readItem_1 : decode cX9_readItem 1 = .ok (.getfield 9, 3) := by decide +kernel
theorem dX9_readItem_4 : decode cX9_readItem 4 = .ok (.aload_n 0, 1) := by decide +kernel
theorem dX9_readItem_5 : decode cX9_readItem 5 = .ok (.getfield 47, 3) := by decide +kernel
theorem dX9_readItem_8 : decode cX9_readItem 8 = .ok (.iconst 1, 1) := by decide +kernel
theorem dX9_readItem_9 : decode cX9_readItem 9 = .ok (.isub, 1) := by decide +kernel
theorem dX9_readItem_10 : decode cX9_readItem 10 = .ok (.iaload, 1) := by decide +kernel
theorem dX9_readItem_11 : decode cX9_readItem 11 = .ok (.istore_n 1, 1) := by decide +kernel
theorem dX9_readItem_12 : decode cX9_readItem 12 = .ok (.aload_n 0, 1) := by decide +kernel
theorem dX9_readItem_13 : decode cX9_readItem 13 = .ok (.getfield 26, 3) := by decide +kernel
theorem dX9_readItem_16 : decode cX9_readItem 16 = .ok (.getfield 124, 3) := by decide +kernel
theorem dX9_readItem_19 : decode cX9_readItem 19 = .ok (.aload_n 0, 1) := by decide +kernel
theorem dX9_readItem_20 : decode cX9_readItem 20 = .ok (.getfield 15, 3) := by decide +kernel
theorem dX9_readItem_23 : decode cX9_readItem 23 = .ok (.aload_n 0, 1) := by decide +kernel
theorem dX9_readItem_24 : decode cX9_readItem 24 = .ok (.getfield 47, 3) := by decide +kernel
theorem dX9_readItem_27 : decode cX9_readItem 27 = .ok (.iconst 1, 1) := by decide +kernel
theorem dX9_readItem_28 : decode cX9_readItem 28 = .ok (.isub, 1) := by decide +kernel
theorem dX9_readItem_29 : decode cX9_readItem 29 = .ok (.iaload, 1) := by decide +kernel
theorem dX9_readItem_30 : decode cX9_readItem 30 = .ok (.dup2, 1) := by decide +kernel
theorem dX9_readItem_31 : decode cX9_readItem 31 = .ok (.iaload, 1) := by decide +kernel
theorem dX9_readItem_32 : decode cX9_readItem 32 = .ok (.iconst 1, 1) := by decide +kernel
theorem dX9_readItem_33 : decode cX9_readItem 33 = .ok (.iadd, 1) := by decide +kernel
theorem dX9_readItem_34 : decode cX9_readItem 34 = .ok (.iastore, 1) := by decide +kernel
theorem dX9_readItem_35 : decode cX9_readItem 35 = .ok (.iload_n 1, 1) := by decide +kernel
theorem dX9_readItem_36 : decode cX9_readItem 36 = .ok (.tableswitch 54 3 7 #[36, 41, 41, 41, 49], 36) := by decide +kernel
theorem dX9_readItem_72 : decode cX9_readItem 72 = .ok (.aload_n 0, 1) := by decide +kernel
theorem dX9_readItem_73 : decode cX9_readItem 73 = .ok (.invokevirtual 127, 3) := by decide +kernel
theorem dX9_readItem_76 : decode cX9_readItem 76 = .ok (.ireturn, 1) := by decide +kernel
theorem dX9_readItem_77 : decode cX9_readItem 77 = .ok (.aload_n 0, 1) := by decide +kernel
theorem dX9_readItem_78 : decode cX9_readItem 78 = .ok (.iload_n 1, 1) := by decide +kernel
theorem dX9_readItem_79 : decode cX9_readItem 79 = .ok (.iconst 3, 1) := by decide +kernel
theorem dX9_readItem_80 : decode cX9_readItem 80 = .ok (.isub, 1) := by decide +kernel
theorem dX9_readItem_81 : decode cX9_readItem 81 = .ok (.invokevirtual 130, 3) := by decide +kernel
theorem dX9_readItem_84 : decode cX9_readItem 84 = .ok (.ireturn, 1) := by decide +kernel
theorem dX9_readItem_85 : decode cX9_readItem 85 = .ok (.aload_n 0, 1) := by decide +kernel
theorem dX9_readItem_86 : decode cX9_readItem 86 = .ok (.invokevirtual 59, 3) := by decide +kernel
theorem dX9_readItem_89 : decode cX9_readItem 89 = .ok (.ireturn, 1) := by decide +kernel
theorem dX9_readItem_90 : decode cX9_readItem 90 = .ok (.aload_n 0, 1) := by decide +kernel
theorem dX9_readItem_91 : decode cX9_readItem 91 = .ok (.invokevirtual 133, 3) := by decide +kernel
theorem dX9_readItem_94 : decode cX9_readItem 94 = .ok (.ireturn, 1) := by decide +kernel
theorem dX9_readRing_0 : decode cX9_readRing 0 = .ok (.aload_n 0, 1) := by decide +kernel
theorem dX9_readRing_1 : decode cX9_readRing 1 = .ok (.invokevirtual 69, 3) := by decide +kernel
theorem dX9_readRing_4 : decode cX9_readRing 4 = .ok (.aload_n 0, 1) := by decide +kernel
theorem dX9_readRing_5 : decode cX9_readRing 5 = .ok (.getfield 26, 3) := by decide +kernel
theorem dX9_readRing_8 : decode cX9_readRing 8 = .ok (.iconst 0, 1) := by decide +kernel
theorem dX9_readRing_9 : decode cX9_readRing 9 = .ok (.invokevirtual 136, 3) := by decide +kernel
theorem dX9_readRing_12 : decode cX9_readRing 12 = .ok (.ifCond .ne 10, 3) := by decide +kernel
theorem dX9_readRing_15 : decode cX9_readRing 15 = .ok (.aload_n 0, 1) := by decide +kernel
theorem dX9_readRing_16 : decode cX9_readRing 16 = .ok (.bipush 7, 2) := by decide +kernel
theorem dX9_readRing_18 : decode cX9_readRing 18 = .ok (.invokevirtual 72, 3) := by decide +kernel
theorem dX9_readRing_21 : decode cX9_readRing 21 = .ok (.ireturn, 1) := by decide +kernel
theorem dX9_readRing_22 : decode cX9_readRing 22 = .ok (.aload_n 0, 1) := by decide +kernel
theorem dX9_readRing_23 : decode cX9_readRing 23 = .ok (.aload_n 0, 1) := by decide +kernel
theorem dX9_readRing_24 : decode cX9_readRing 24 = .ok (.getfield 44, 3) := by decide +kernel
theorem dX9_readRing_27 : decode cX9_readRing 27 = .ok (.invokevirtual 76, 3) := by decide +kernel
theorem dX9_readRing_30 : decode cX9_readRing 30 = .ok (.bipush 40, 2) := by decide +kernel
theorem dX9_readRing_32 : decode cX9_readRing 32 = .ok (.if_icmp .ne 12, 3) := by decide +kernel
theorem dX9_readRing_35 : decode cX9_readRing 35 = .ok (.aload_n 0, 1) := by decide +kernel
theorem dX9_readRing_36 : decode cX9_readRing 36 = .ok (.bipush 8, 2) := by decide +kernel
theorem dX9_readRing_38 : decode cX9_readRing 38 = .ok (.invokevirtual 139, 3) := by decide +kernel
theorem dX9_readRing_41 : decode cX9_readRing 41 = .ok (.goto 7, 3) := by decide +kernel
theorem dX9_readRing_44 : decode cX9_readRing 44 = .ok (.aload_n 0, 1) := by decide +kernel
theorem dX9_readRing_45 : decode cX9_readRing 45 = .ok (.invokevirtual 111, 3) := by decide +kernel
theorem dX9_readRing_48 : decode cX9_readRing 48 = .ok (.ireturn, 1) := by decide +kernel
theorem dX9_readPart_0 : decode cX9_readPart 0 = .ok (.aload_n 0, 1) := by decide +kernel
theorem dX9_readPart_1 : decode cX9_readPart 1 = .ok (.invokevirtual 69, 3) := by decide +kernel
theorem dX9_readPart_4 : decode cX9_readPart 4 = .ok (.aload_n 0, 1) := by decide +kernel
theorem dX9_readPart_5 : decode cX9_readPart 5 = .ok (.getfield 26, 3) := by decide +kernel
theorem dX9_readPart_8 : decode cX9_readPart 8 = .ok (.iload_n 1, 1) := by decide +kernel
theorem dX9_readPart_9 : decode cX9_readPart 9 = .ok (.iconst 0, 1) := by decide +kernel
theorem dX9_readPart_10 : decode cX9_readPart 10 = .ok (.invokevirtual 117, 3) := by decide +kernel
theorem dX9_readPart_13 : decode cX9_readPart 13 = .ok (.ifCond .ne 10, 3) := by decide +kernel
theorem dX9_readPart_16 : decode cX9_readPart 16 = .ok (.aload_n 0, 1) := by decide +kernel
theorem dX9_readPart_17 : decode cX9_readPart 17 = .ok (.bipush 7, 2) := by decide +kernel
theorem dX9_readPart_19 : decode cX9_readPart 19 = .ok (.invokevirtual 72, 3) := by decide +kernel
theorem dX9_readPart_22 : decode cX9_readPart 22 = .ok (.ireturn, 1) := by decide +kernel
theorem dX9_readPart_23 : decode cX9_readPart 23 = .ok (.iload_n 1, 1) := by decide +kernel
theorem dX9_readPart_24 : decode cX9_readPart 24 = .ok (.iconst 1, 1) := by decide +kernel
theorem dX9_readPart_25 : decode cX9_readPart 25 = .ok (.if_icmp .ne 40, 3) := by decide +kernel
theorem dX9_readPart_28 : decode cX9_readPart 28 = .ok (.aload_n 0, 1) := by decide +kernel
theorem dX9_readPart_29 : decode cX9_readPart 29 = .ok (.aload_n 0, 1) := by decide +kernel
theorem dX9_readPart_30 : decode cX9_readPart 30 = .ok (.getfield 44, 3) := by decide +kernel
theorem dX9_readPart_33 : decode cX9_readPart 33 = .ok (.invokevirtual 76, 3) := by decide +kernel
theorem dX9_readPart_36 : decode cX9_readPart 36 = .ok (.invokestatic 83, 3) := by decide +kernel
theorem dX9_readPart_39 : decode cX9_readPart 39 = .ok (.ifCond .eq 26, 3) := by decide +kernel
theorem dX9_readPart_42 : decode cX9_readPart 42 = .ok (.aload_n 0, 1) := by decide +kernel
theorem dX9_readPart_43 : decode cX9_readPart 43 = .ok (.getfield 26, 3) := by decide +kernel
theorem dX9_readPart_46 : decode cX9_readPart 46 = .ok (.getfield 124, 3) := by decide +kernel
theorem dX9_readPart_49 : decode cX9_readPart 49 = .ok (.aload_n 0, 1) := by decide +kernel
theorem dX9_readPart_50 : decode cX9_readPart 50 = .ok (.getfield 26, 3) := by decide +kernel
theorem dX9_readPart_53 : decode cX9_readPart 53 = .ok (.getfield 142, 3) := by decide +kernel
theorem dX9_readPart_56 : decode cX9_readPart 56 = .ok (.iconst 1, 1) := by decide +kernel
theorem dX9_readPart_57 : decode cX9_readPart 57 = .ok (.isub, 1) := by decide +kernel
theorem dX9_readPart_58 : decode cX9_readPart 58 = .ok (.iconst 1, 1) := by decide +kernel
theorem dX9_readPart_59 : decode cX9_readPart 59 = .ok (.iastore, 1) := by decide +kernel
theorem dX9_readPart_60 : decode cX9_readPart 60 = .ok (.aload_n 0, 1) := by decide +kernel
theorem dX9_readPart_61 : decode cX9_readPart 61 = .ok (.invokevirtual 133, 3) := by decide +kernel
theorem dX9_readPart_64 : decode cX9_readPart 64 = .ok (.ireturn, 1) := by decide +kernel
theorem dX9_readPart_65 : decode cX9_readPart 65 = .ok (.aload_n 0, 1) := by decide +kernel
theorem dX9_readPart_66 : decode cX9_readPart 66 = .ok (.iload_n 1, 1) := by decide +kernel
theorem dX9_readPart_67 : decode cX9_readPart 67 = .ok (.invokevirtual 121, 3) := by decide +kernel
theorem dX9_readPart_70 : decode cX9_readPart 70 = .ok (.ireturn, 1) := by decide +kernel
theorem dX9_readEmptyOrBracket_0 : decode cX9_readEmptyOrBracket 0 = .ok (.aload_n 0, 1) := by decide +kernel
theorem dX9_readEmptyOrBracket_1 : decode cX9_readEmptyOrBracket 1 = .ok (.invokevirtual 69, 3) := by decide +kernel
theorem dX9_readEmptyOrBracket_4 : decode cX9_readEmptyOrBracket 4 = .ok (.aload_n 0, 1) := by decide +kernel
theorem dX9_readEmptyOrBracket_5 : decode cX9_readEmptyOrBracket 5 = .ok (.aload_n 0, 1) := by decide +kernel
theorem dX9_readEmptyOrBracket_6 : decode cX9_readEmptyOrBracket 6 = .ok (.getfield 44, 3) := by decide +kernel
theorem dX9_readEmptyOrBracket_9 : decode cX9_readEmptyOrBracket 9 = .ok (.invokevirtual 76, 3) := by decide +kernel
theorem dX9_readEmptyOrBracket_12 : decode cX9_readEmptyOrBracket 12 = .ok (.bipush 40, 2) := by decide +kernel
theorem dX9_readEmptyOrBracket_14 : decode cX9_readEmptyOrBracket 14 = .ok (.if_icmp .ne 9, 3) := by decide +kernel
theorem dX9_readEmptyOrBracket_17 : decode cX9_readEmptyOrBracket 17 = .ok (.aload_n 0, 1) := by decide +kernel
theorem dX9_readEmptyOrBracket_18 : decode cX9_readEmptyOrBracket 18 = .ok (.iload_n 1, 1) := by decide +kernel
theorem dX9_readEmptyOrBracket_19 : decode cX9_readEmptyOrBracket 19 = .ok (.invokevirtual 139, 3) := by decide +kernel
theorem dX9_readEmptyOrBracket_22 : decode cX9_readEmptyOrBracket 22 = .ok (.ireturn, 1) := by decide +kernel
theorem dX9_readEmptyOrBracket_23 : decode cX9_readEmptyOrBracket 23 = .ok (.aload_n 0, 1) := by decide +kernel
theorem dX9_readEmptyOrBracket_24 : decode cX9_readEmptyOrBracket 24 = .ok (.aload_n 0, 1) := by decide +kernel
theorem dX9_readEmptyOrBracket_25 : decode cX9_readEmptyOrBracket 25 = .ok (.getfield 44, 3) := by decide +kernel
theorem dX9_readEmptyOrBracket_28 : decode cX9_readEmptyOrBracket 28 = .ok (.invokevirtual 76, 3) := by decide +kernel
theorem dX9_readEmptyOrBracket_31 : decode cX9_readEmptyOrBracket 31 = .ok (.invokestatic 80, 3) := by decide +kernel
theorem dX9_readEmptyOrBracket_34 : decode cX9_readEmptyOrBracket 34 = .ok (.ifCond .ne 8, 3) := by decide +kernel
theorem dX9_readEmptyOrBracket_37 : decode cX9_readEmptyOrBracket 37 = .ok (.aload_n 0, 1) := by decide +kernel
theorem dX9_readEmptyOrBracket_38 : decode cX9_readEmptyOrBracket 38 = .ok (.invokevirtual 111, 3) := by decide +kernel
theorem dX9_readEmptyOrBracket_41 : decode cX9_readEmptyOrBracket 41 = .ok (.ireturn, 1) := by decide +kernel
theorem dX9_readEmptyOrBracket_42 : decode cX9_readEmptyOrBracket 42 = .ok (.aload_n 0, 1) := by decide +kernel
theorem dX9_readEmptyOrBracket_43 : decode cX9_readEmptyOrBracket 43 = .ok (.ldc 145, 2) := by decide +kernel
theorem dX9_readEmptyOrBracket_45 : decode cX9_readEmptyOrBracket 45 = .ok (.invokevirtual 107, 3) := by decide +kernel
theorem dX9_readEmptyOrBracket_48 : decode cX9_readEmptyOrBracket 48 = .ok (.ifCond .ne 9, 3) := by decide +kernel
theorem dX9_readEmptyOrBracket_51 : decode cX9_readEmptyOrBracket 51 = .ok (.aload_n 0, 1) := by decide +kernel
theorem dX9_readEmptyOrBracket_52 : decode cX9_readEmptyOrBracket 52 = .ok (.iconst 2, 1) := by decide +kernel
theorem dX9_readEmptyOrBracket_53 : decode cX9_readEmptyOrBracket 53 = .ok (.invokevirtual 72, 3) := by decide +kernel
theorem dX9_readEmptyOrBracket_56 : decode cX9_readEmptyOrBracket 56 = .ok (.ireturn, 1) := by decide +kernel
theorem dX9_readEmptyOrBracket_57 : decode cX9_readEmptyOrBracket 57 = .ok (.aload_n 0, 1) := by decide +kernel
theorem dX9_readEmptyOrBracket_58 : decode cX9_readEmptyOrBracket 58 = .ok (.aload_n 0, 1) := by decide +kernel
theorem dX9_readEmptyOrBracket_59 : decode cX9_readEmptyOrBracket 59 = .ok (.invokevirtual 89, 3) := by decide +kernel
theorem dX9_readEmptyOrBracket_62 : decode cX9_readEmptyOrBracket 62 = .ok (.putfield 44, 3) := by decide +kernel
theorem dX9_readEmptyOrBracket_65 : decode cX9_readEmptyOrBracket 65 = .ok (.iconst 1, 1) := by decide +kernel
theorem dX9_readEmptyOrBracket_66 : decode cX9_readEmptyOrBracket 66 = .ok (.ireturn, 1) := by decide +kernel
theorem dX9_openLevel_0 : decode cX9_openLevel 0 = .ok (.aload_n 0, 1) := by decide +kernel
theorem dX9_openLevel_1 : decode cX9_openLevel 1 = .ok (.getfield 47, 3) := by decide +kernel
theorem dX9_openLevel_4 : decode cX9_openLevel 4 = .ok (.bipush 64, 2) := by decide +kernel
theorem dX9_openLevel_6 : decode cX9_openLevel 6 = .ok (.if_icmp .lt 10, 3) := by decide +kernel
theorem dX9_openLevel_9 : decode cX9_openLevel 9 = .ok (.aload_n 0, 1) := by decide +kernel
theorem dX9_openLevel_10 : decode cX9_openLevel 10 = .ok (.bipush 6, 2) := by decide +kernel
theorem dX9_openLevel_12 : decode cX9_openLevel 12 = .ok (.invokevirtual 72, 3) := by decide +kernel
theorem dX9_openLevel_15 : decode cX9_openLevel 15 = .ok (.ireturn, 1) := by decide +kernel
theorem dX9_openLevel_16 : decode cX9_openLevel 16 = .ok (.aload_n 0, 1) := by decide +kernel
theorem dX9_openLevel_17 : decode cX9_openLevel 17 = .ok (.getfield 9, 3) := by decide +kernel
theorem dX9_openLevel_20 : decode cX9_openLevel 20 = .ok (.aload_n 0, 1) := by decide +kernel
theorem dX9_openLevel_21 : decode cX9_openLevel 21 = .ok (.getfield 47, 3) := by decide +kernel
theorem dX9_openLevel_24 : decode cX9_openLevel 24 = .ok (.iload_n 1, 1) := by decide +kernel
theorem dX9_openLevel_25 : decode cX9_openLevel 25 = .ok (.iastore, 1) := by decide +kernel
theorem dX9_openLevel_26 : decode cX9_openLevel 26 = .ok (.aload_n 0, 1) := by decide +kernel
theorem dX9_openLevel_27 : decode cX9_openLevel 27 = .ok (.getfield 15, 3) := by decide +kernel
theorem dX9_openLevel_30 : decode cX9_openLevel 30 = .ok (.aload_n 0, 1) := by decide +kernel
theorem dX9_openLevel_31 : decode cX9_openLevel 31 = .ok (.getfield 47, 3) := by decide +kernel
theorem dX9_openLevel_34 : decode cX9_openLevel 34 = .ok (.aload_n 0, 1) := by decide +kernel
theorem dX9_openLevel_35 : decode cX9_openLevel 35 = .ok (.getfield 26, 3) := by decide +kernel
theorem dX9_openLevel_38 : decode cX9_openLevel 38 = .ok (.getfield 142, 3) := by decide +kernel
theorem dX9_openLevel_41 : decode cX9_openLevel 41 = .ok (.iconst 1, 1) := by decide +kernel
theorem dX9_openLevel_42 : decode cX9_openLevel 42 = .ok (.isub, 1) := by decide +kernel
theorem dX9_openLevel_43 : decode cX9_openLevel 43 = .ok (.iastore, 1) := by decide +kernel
theorem dX9_openLevel_44 : decode cX9_openLevel 44 = .ok (.aload_n 0, 1) := by decide +kernel
theorem dX9_openLevel_45 : decode cX9_openLevel 45 = .ok (.dup, 1) := by decide +kernel
theorem dX9_openLevel_46 : decode cX9_openLevel 46 = .ok (.getfield 47, 3) := by decide +kernel
theorem dX9_openLevel_49 : decode cX9_openLevel 49 = .ok (.iconst 1, 1) := by decide +kernel
theorem dX9_openLevel_50 : decode cX9_openLevel 50 = .ok (.iadd, 1) := by decide +kernel
theorem dX9_openLevel_51 : decode cX9_openLevel 51 = .ok (.putfield 47, 3) := by decide +kernel
theorem dX9_openLevel_54 : decode cX9_openLevel 54 = .ok (.iload_n 1, 1) := by decide +kernel
theorem dX9_openLevel_55 : decode cX9_openLevel 55 = .ok (.bipush 7, 2) := by decide +kernel
theorem dX9_openLevel_57 : decode cX9_openLevel 57 = .ok (.if_icmp .ne 13, 3) := by decide +kernel
theorem dX9_openLevel_60 : decode cX9_openLevel 60 = .ok (.aload_n 0, 1) := by decide +kernel
theorem dX9_openLevel_61 : decode cX9_openLevel 61 = .ok (.dup, 1) := by decide +kernel
theorem dX9_openLevel_62 : decode cX9_openLevel 62 = .ok (.getfield 50, 3) := by decide +kernel
theorem dX9_openLevel_65 : decode cX9_openLevel 65 = .ok (.iconst 1, 1) := by decide +kernel
theorem dX9_openLevel_66 : decode cX9_openLevel 66 = .ok (.iadd, 1) := by decide +kernel
theorem dX9_openLevel_67 : decode cX9_openLevel 67 = .ok (.putfield 50, 3) := by decide +kernel
theorem dX9_openLevel_70 : decode cX9_openLevel 70 = .ok (.aload_n 0, 1) := by decide +kernel
theorem dX9_openLevel_71 : decode cX9_openLevel 71 = .ok (.dup, 1) := by decide +kernel
theorem dX9_openLevel_72 : decode cX9_openLevel 72 = .ok (.getfield 44, 3) := by decide +kernel
theorem dX9_openLevel_75 : decode cX9_openLevel 75 = .ok (.iconst 1, 1) := by decide +kernel
theorem dX9_openLevel_76 : decode cX9_openLevel 76 = .ok (.iadd, 1) := by decide +kernel
theorem dX9_openLevel_77 : decode cX9_openLevel 77 = .ok (.putfield 44, 3) := by decide +kernel
theorem dX9_openLevel_80 : decode cX9_openLevel 80 = .ok (.iconst 1, 1) := by decide +kernel
theorem dX9_openLevel_81 : decode cX9_openLevel 81 = .ok (.ireturn, 1) := by decide +kernel
theorem dX9_goOnBehindItem_0 : decode cX9_goOnBehindItem 0 = .ok (.aload_n 0, 1) := by decide +kernel
theorem dX9_goOnBehindItem_1 : decode cX9_goOnBehindItem 1 = .ok (.getfield 47, 3) := by decide +kernel
theorem dX9_goOnBehindItem_4 : decode cX9_goOnBehindItem 4 = .ok (.ifCond .le 101, 3) := by decide +kernel
theorem dX9_goOnBehindItem_7 : decode cX9_goOnBehindItem 7 = .ok (.aload_n 0, 1) := by decide +kernel
theorem dX9_goOnBehindItem_8 : decode cX9_goOnBehindItem 8 = .ok (.invokevirtual 69, 3) := by decide +kernel
theorem dX9_goOnBehindItem_11 : decode cX9_goOnBehindItem 11 = .ok (.aload_n 0, 1) := by decide +kernel
theorem dX9_goOnBehindItem_12 : decode cX9_goOnBehindItem 12 = .ok (.getfield 9, 3) := by decide +kernel
theorem dX9_goOnBehindItem_15 : decode cX9_goOnBehindItem 15 = .ok (.aload_n 0, 1) := by decide +kernel
theorem dX9_goOnBehindItem_16 : decode cX9_goOnBehindItem 16 = .ok (.getfield 47, 3) := by decide +kernel
theorem dX9_goOnBehindItem_19 : decode cX9_goOnBehindItem 19 = .ok (.iconst 1, 1) := by decide +kernel
theorem dX9_goOnBehindItem_20 : decode cX9_goOnBehindItem 20 = .ok (.isub, 1) := by decide +kernel
theorem dX9_goOnBehindItem_21 : decode cX9_goOnBehindItem 21 = .ok (.iaload, 1) := by decide +kernel
theorem dX9_goOnBehindItem_22 : decode cX9_goOnBehindItem 22 = .ok (.istore_n 1, 1) := by decide +kernel
theorem dX9_goOnBehindItem_23 : decode cX9_goOnBehindItem 23 = .ok (.aload_n 0, 1) := by decide +kernel
theorem dX9_goOnBehindItem_24 : decode cX9_goOnBehindItem 24 = .ok (.aload_n 0, 1) := by decide +kernel
theorem dX9_goOnBehindItem_25 : decode cX9_goOnBehindItem 25 = .ok (.getfield 44, 3) := by decide +kernel
theorem dX9_goOnBehindItem_28 : decode cX9_goOnBehindItem 28 = .ok (.invokevirtual 76, 3) := by decide +kernel
theorem dX9_goOnBehindItem_31 : decode cX9_goOnBehindItem 31 = .ok (.istore_n 2, 1) := by decide +kernel
theorem dX9_goOnBehindItem_32 : decode cX9_goOnBehindItem 32 = .ok (.iload_n 2, 1) := by decide +kernel
theorem dX9_goOnBehindItem_33 : decode cX9_goOnBehindItem 33 = .ok (.bipush 44, 2) := by decide +kernel
theorem dX9_goOnBehindItem_35 : decode cX9_goOnBehindItem 35 = .ok (.if_icmp .ne 20, 3) := by decide +kernel
theorem dX9_goOnBehindItem_38 : decode cX9_goOnBehindItem 38 = .ok (.iload_n 1, 1) := by decide +kernel
theorem dX9_goOnBehindItem_39 : decode cX9_goOnBehindItem 39 = .ok (.iconst 1, 1) := by decide +kernel
theorem dX9_goOnBehindItem_40 : decode cX9_goOnBehindItem 40 = .ok (.if_icmp .eq 15, 3) := by decide +kernel
theorem dX9_goOnBehindItem_43 : decode cX9_goOnBehindItem 43 = .ok (.aload_n 0, 1) := by decide +kernel
theorem dX9_goOnBehindItem_44 : decode cX9_goOnBehindItem 44 = .ok (.dup, 1) := by decide +kernel
theorem dX9_goOnBehindItem_45 : decode cX9_goOnBehindItem 45 = .ok (.getfield 44, 3) := by decide +kernel
theorem dX9_goOnBehindItem_48 : decode cX9_goOnBehindItem 48 = .ok (.iconst 1, 1) := by decide +kernel
theorem dX9_goOnBehindItem_49 : decode cX9_goOnBehindItem 49 = .ok (.iadd, 1) := by decide +kernel
theorem dX9_goOnBehindItem_50 : decode cX9_goOnBehindItem 50 = .ok (.putfield 44, 3) := by decide +kernel
theorem dX9_goOnBehindItem_53 : decode cX9_goOnBehindItem 53 = .ok (.iconst 1, 1) := by decide +kernel
theorem dX9_goOnBehindItem_54 : decode cX9_goOnBehindItem 54 = .ok (.ireturn, 1) := by decide +kernel
theorem dX9_goOnBehindItem_55 : decode cX9_goOnBehindItem 55 = .ok (.iload_n 2, 1) := by decide +kernel
theorem dX9_goOnBehindItem_56 : decode cX9_goOnBehindItem 56 = .ok (.bipush 41, 2) := by decide +kernel
theorem dX9_goOnBehindItem_58 : decode cX9_goOnBehindItem 58 = .ok (.if_icmp .eq 8, 3) := by decide +kernel
theorem dX9_goOnBehindItem_61 : decode cX9_goOnBehindItem 61 = .ok (.aload_n 0, 1) := by decide +kernel
theorem dX9_goOnBehindItem_62 : decode cX9_goOnBehindItem 62 = .ok (.invokevirtual 111, 3) := by decide +kernel
theorem dX9_goOnBehindItem_65 : decode cX9_goOnBehindItem 65 = .ok (.ireturn, 1) := by decide +kernel
theorem dX9_goOnBehindItem_66 : decode cX9_goOnBehindItem 66 = .ok (.aload_n 0, 1) := by decide +kernel
theorem dX9_goOnBehindItem_67 : decode cX9_goOnBehindItem 67 = .ok (.dup, 1) := by decide +kernel
theorem dX9_goOnBehindItem_68 : decode cX9_goOnBehindItem 68 = .ok (.getfield 44, 3) := by decide +kernel
theorem dX9_goOnBehindItem_71 : decode cX9_goOnBehindItem 71 = .ok (.iconst 1, 1) := by decide +kernel
theorem dX9_goOnBehindItem_72 : decode cX9_goOnBehindItem 72 = .ok (.iadd, 1) := by decide +kernel
theorem dX9_goOnBehindItem_73 : decode cX9_goOnBehindItem 73 = .ok (.putfield 44, 3) := by decide +kernel
theorem dX9_goOnBehindItem_76 : decode cX9_goOnBehindItem 76 = .ok (.aload_n 0, 1) := by decide +kernel
theorem dX9_goOnBehindItem_77 : decode cX9_goOnBehindItem 77 = .ok (.dup, 1) := by decide +kernel
theorem dX9_goOnBehindItem_78 : decode cX9_goOnBehindItem 78 = .ok (.getfield 47, 3) := by decide +kernel
theorem dX9_goOnBehindItem_81 : decode cX9_goOnBehindItem 81 = .ok (.iconst 1, 1) := by decide +kernel
theorem dX9_goOnBehindItem_82 : decode cX9_goOnBehindItem 82 = .ok (.isub, 1) := by decide +kernel
theorem dX9_goOnBehindItem_83 : decode cX9_goOnBehindItem 83 = .ok (.putfield 47, 3) := by decide +kernel
theorem dX9_goOnBehindItem_86 : decode cX9_goOnBehindItem 86 = .ok (.iload_n 1, 1) := by decide +kernel
theorem dX9_goOnBehindItem_87 : decode cX9_goOnBehindItem 87 = .ok (.bipush 7, 2) := by decide +kernel
theorem dX9_goOnBehindItem_89 : decode cX9_goOnBehindItem 89 = .ok (.if_icmp .ne 13, 3) := by decide +kernel
theorem dX9_goOnBehindItem_92 : decode cX9_goOnBehindItem 92 = .ok (.aload_n 0, 1) := by decide +kernel
theorem dX9_goOnBehindItem_93 : decode cX9_goOnBehindItem 93 = .ok (.dup, 1) := by decide +kernel
theorem dX9_goOnBehindItem_94 : decode cX9_goOnBehindItem 94 = .ok (.getfield 50, 3) := by decide +kernel
theorem dX9_goOnBehindItem_97 : decode cX9_goOnBehindItem 97 = .ok (.iconst 1, 1) := by decide +kernel
theorem dX9_goOnBehindItem_98 : decode cX9_goOnBehindItem 98 = .ok (.isub, 1) := by decide +kernel
theorem dX9_goOnBehindItem_99 : decode cX9_goOnBehindItem 99 = .ok (.putfield 50, 3) := by decide +kernel
theorem dX9_goOnBehindItem_102 : decode cX9_goOnBehindItem 102 = .ok (.goto (-102), 3) := by decide +kernel
theorem dX9_goOnBehindItem_105 : decode cX9_goOnBehindItem 105 = .ok (.iconst 1, 1) := by decide +kernel
theorem dX9_goOnBehindItem_106 : decode cX9_goOnBehindItem 106 = .ok (.ireturn, 1) := by decide +kernel
theorem dX9_readCoordinate_0 : decode cX9_readCoordinate 0 = .ok (.aload_n 0, 1) := by decide +kernel
theorem dX9_readCoordinate_1 : decode cX9_readCoordinate 1 = .ok (.invokevirtual 69, 3) := by decide +kernel
theorem dX9_readCoordinate_4 : decode cX9_readCoordinate 4 = .ok (.aload_n 0, 1) := by decide +kernel
theorem dX9_readCoordinate_5 : decode cX9_readCoordinate 5 = .ok (.getfield 26, 3) := by decide +kernel
theorem dX9_readCoordinate_8 : decode cX9_readCoordinate 8 = .ok (.invokevirtual 147, 3) := by decide +kernel
theorem dX9_readCoordinate_11 : decode cX9_readCoordinate 11 = .ok (.ifCond .ne 10, 3) := by decide +kernel
theorem dX9_readCoordinate_14 : decode cX9_readCoordinate 14 = .ok (.aload_n 0, 1) := by decide +kernel
theorem dX9_readCoordinate_15 : decode cX9_readCoordinate 15 = .ok (.bipush 7, 2) := by decide +kernel
theorem dX9_readCoordinate_17 : decode cX9_readCoordinate 17 = .ok (.invokevirtual 72, 3) := by decide +kernel
theorem dX9_readCoordinate_20 : decode cX9_readCoordinate 20 = .ok (.ireturn, 1) := by decide +kernel
theorem dX9_readCoordinate_21 : decode cX9_readCoordinate 21 = .ok (.aload_n 0, 1) := by decide +kernel
theorem dX9_readCoordinate_22 : decode cX9_readCoordinate 22 = .ok (.invokevirtual 150, 3) := by decide +kernel
theorem dX9_readCoordinate_25 : decode cX9_readCoordinate 25 = .ok (.ifCond .ne 5, 3) := by decide +kernel
theorem dX9_readCoordinate_28 : decode cX9_readCoordinate 28 = .ok (.iconst 0, 1) := by decide +kernel
theorem dX9_readCoordinate_29 : decode cX9_readCoordinate 29 = .ok (.ireturn, 1) := by decide +kernel
theorem dX9_readCoordinate_30 : decode cX9_readCoordinate 30 = .ok (.aload_n 0, 1) := by decide +kernel
theorem dX9_readCoordinate_31 : decode cX9_readCoordinate 31 = .ok (.getfield 153, 3) := by decide +kernel
theorem dX9_readCoordinate_34 : decode cX9_readCoordinate 34 = .ok (.istore_n 1, 1) := by decide +kernel
theorem dX9_readCoordinate_35 : decode cX9_readCoordinate 35 = .ok (.aload_n 0, 1) := by decide +kernel
theorem dX9_readCoordinate_36 : decode cX9_readCoordinate 36 = .ok (.invokevirtual 150, 3) := by decide +kernel
theorem dX9_readCoordinate_39 : decode cX9_readCoordinate 39 = .ok (.ifCond .eq 22, 3) := by decide +kernel
theorem dX9_readCoordinate_42 : decode cX9_readCoordinate 42 = .ok (.aload_n 0, 1) := by decide +kernel
theorem dX9_readCoordinate_43 : decode cX9_readCoordinate 43 = .ok (.getfield 26, 3) := by decide +kernel
theorem dX9_readCoordinate_46 : decode cX9_readCoordinate 46 = .ok (.iload_n 1, 1) := by decide +kernel
theorem dX9_readCoordinate_47 : decode cX9_readCoordinate 47 = .ok (.aload_n 0, 1) := by decide +kernel
theorem dX9_readCoordinate_48 : decode cX9_readCoordinate 48 = .ok (.getfield 153, 3) := by decide +kernel
theorem dX9_readCoordinate_51 : decode cX9_readCoordinate 51 = .ok (.invokevirtual 156, 3) := by decide +kernel
theorem dX9_readCoordinate_54 : decode cX9_readCoordinate 54 = .ok (.ifCond .eq 7, 3) := by decide +kernel
theorem dX9_readCoordinate_57 : decode cX9_readCoordinate 57 = .ok (.iconst 1, 1) := by decide +kernel
theorem dX9_readCoordinate_58 : decode cX9_readCoordinate 58 = .ok (.goto 4, 3) := by decide +kernel
theorem dX9_readCoordinate_61 : decode cX9_readCoordinate 61 = .ok (.iconst 0, 1) := by decide +kernel
theorem dX9_readCoordinate_62 : decode cX9_readCoordinate 62 = .ok (.ireturn, 1) := by decide +kernel
theorem dX9_readNumber_0 : decode cX9_readNumber 0 = .ok (.aload_n 0, 1) := by decide +kernel
theorem dX9_readNumber_1 : decode cX9_readNumber 1 = .ok (.invokevirtual 69, 3) := by decide +kernel
theorem dX9_readNumber_4 : decode cX9_readNumber 4 = .ok (.aload_n 0, 1) := by decide +kernel
theorem dX9_readNumber_5 : decode cX9_readNumber 5 = .ok (.aload_n 0, 1) := by decide +kernel
theorem dX9_readNumber_6 : decode cX9_readNumber 6 = .ok (.getfield 44, 3) := by decide +kernel
theorem dX9_readNumber_9 : decode cX9_readNumber 9 = .ok (.invokevirtual 76, 3) := by decide +kernel
theorem dX9_readNumber_12 : decode cX9_readNumber 12 = .ok (.istore_n 1, 1) := by decide +kernel
theorem dX9_readNumber_13 : decode cX9_readNumber 13 = .ok (.iload_n 1, 1) := by decide +kernel
theorem dX9_readNumber_14 : decode cX9_readNumber 14 = .ok (.invokestatic 83, 3) := by decide +kernel
theorem dX9_readNumber_17 : decode cX9_readNumber 17 = .ok (.ifCond .ne 8, 3) := by decide +kernel
theorem dX9_readNumber_20 : decode cX9_readNumber 20 = .ok (.aload_n 0, 1) := by decide +kernel
theorem dX9_readNumber_21 : decode cX9_readNumber 21 = .ok (.invokevirtual 111, 3) := by decide +kernel
theorem dX9_readNumber_24 : decode cX9_readNumber 24 = .ok (.ireturn, 1) := by decide +kernel
theorem dX9_readNumber_25 : decode cX9_readNumber 25 = .ok (.iload_n 1, 1) := by decide +kernel
theorem dX9_readNumber_26 : decode cX9_readNumber 26 = .ok (.invokestatic 159, 3) := by decide +kernel
theorem dX9_readNumber_29 : decode cX9_readNumber 29 = .ok (.ifCond .eq 12, 3) := by decide +kernel
theorem dX9_readNumber_32 : decode cX9_readNumber 32 = .ok (.aload_n 0, 1) := by decide +kernel
theorem dX9_readNumber_33 : decode cX9_readNumber 33 = .ok (.getfield 44, 3) := by decide +kernel
theorem dX9_readNumber_36 : decode cX9_readNumber 36 = .ok (.iconst 1, 1) := by decide +kernel
theorem dX9_readNumber_37 : decode cX9_readNumber 37 = .ok (.iadd, 1) := by decide +kernel
theorem dX9_readNumber_38 : decode cX9_readNumber 38 = .ok (.goto 7, 3) := by decide +kernel
theorem dX9_readNumber_41 : decode cX9_readNumber 41 = .ok (.aload_n 0, 1) := by decide +kernel
theorem dX9_readNumber_42 : decode cX9_readNumber 42 = .ok (.getfield 44, 3) := by decide +kernel
theorem dX9_readNumber_45 : decode cX9_readNumber 45 = .ok (.istore_n 2, 1) := by decide +kernel
theorem dX9_readNumber_46 : decode cX9_readNumber 46 = .ok (.aload_n 0, 1) := by decide +kernel
theorem dX9_readNumber_47 : decode cX9_readNumber 47 = .ok (.iload_n 2, 1) := by decide +kernel
theorem dX9_readNumber_48 : decode cX9_readNumber 48 = .ok (.invokevirtual 162, 3) := by decide +kernel
theorem dX9_readNumber_51 : decode cX9_readNumber 51 = .ok (.istore_n 3, 1) := by decide +kernel
theorem dX9_readNumber_52 : decode cX9_readNumber 52 = .ok (.iload_n 2, 1) := by decide +kernel
theorem dX9_readNumber_53 : decode cX9_readNumber 53 = .ok (.iload_n 3, 1) := by decide +kernel
theorem dX9_readNumber_54 : decode cX9_readNumber 54 = .ok (.iadd, 1) := by decide +kernel
theorem dX9_readNumber_55 : decode cX9_readNumber 55 = .ok (.istore 4, 2) := by decide +kernel
theorem dX9_readNumber_57 : decode cX9_readNumber 57 = .ok (.iconst 0, 1) := by decide +kernel
theorem dX9_readNumber_58 : decode cX9_readNumber 58 = .ok (.istore 5, 2) := by decide +kernel
theorem dX9_readNumber_60 : decode cX9_readNumber 60 = .ok (.aload_n 0, 1) := by decide +kernel
theorem dX9_readNumber_61 : decode cX9_readNumber 61 = .ok (.iload 4, 2) := by decide +kernel
theorem dX9_readNumber_63 : decode cX9_readNumber 63 = .ok (.invokevirtual 76, 3) := by decide +kernel
theorem dX9_readNumber_66 : decode cX9_readNumber 66 = .ok (.bipush 46, 2) := by decide +kernel
theorem dX9_readNumber_68 : decode cX9_readNumber 68 = .ok (.if_icmp .ne 22, 3) := by decide +kernel
theorem dX9_readNumber_71 : decode cX9_readNumber 71 = .ok (.aload_n 0, 1) := by decide +kernel
theorem dX9_readNumber_72 : decode cX9_readNumber 72 = .ok (.iload 4, 2) := by decide +kernel
theorem dX9_readNumber_74 : decode cX9_readNumber 74 = .ok (.iconst 1, 1) := by decide +kernel
theorem dX9_readNumber_75 : decode cX9_readNumber 75 = .ok (.iadd, 1) := by decide +kernel
theorem dX9_readNumber_76 : decode cX9_readNumber 76 = .ok (.invokevirtual 162, 3) := by decide +kernel
theorem dX9_readNumber_79 : decode cX9_readNumber 79 = .ok (.istore 5, 2) := by decide +kernel
theorem dX9_readNumber_81 : decode cX9_readNumber 81 = .ok (.iload 4, 2) := by decide +kernel
theorem dX9_readNumber_83 : decode cX9_readNumber 83 = .ok (.iconst 1, 1) := by decide +kernel
theorem dX9_readNumber_84 : decode cX9_readNumber 84 = .ok (.iload 5, 2) := by decide +kernel
theorem dX9_readNumber_86 : decode cX9_readNumber 86 = .ok (.iadd, 1) := by decide +kernel
theorem dX9_readNumber_87 : decode cX9_readNumber 87 = .ok (.iadd, 1) := by decide +kernel
theorem dX9_readNumber_88 : decode cX9_readNumber 88 = .ok (.istore 4, 2) := by decide +kernel
theorem dX9_readNumber_90 : decode cX9_readNumber 90 = .ok (.iload_n 3, 1) := by decide +kernel
theorem dX9_readNumber_91 : decode cX9_readNumber 91 = .ok (.iload 5, 2) := by decide +kernel
theorem dX9_readNumber_93 : decode cX9_readNumber 93 = .ok (.iadd, 1) := by decide +kernel
theorem dX9_readNumber_94 : decode cX9_readNumber 94 = .ok (.ifCond .le 7, 3) := by decide +kernel
theorem dX9_readNumber_97 : decode cX9_readNumber 97 = .ok (.iconst 1, 1) := by decide +kernel
theorem dX9_readNumber_98 : decode cX9_readNumber 98 = .ok (.goto 4, 3) := by decide +kernel
theorem dX9_readNumber_101 : decode cX9_readNumber 101 = .ok (.iconst 0, 1) := by decide +kernel
theorem dX9_readNumber_102 : decode cX9_readNumber 102 = .ok (.istore 6, 2) := by decide +kernel
theorem dX9_readNumber_104 : decode cX9_readNumber 104 = .ok (.iconst 0, 1) := by decide +kernel
theorem dX9_readNumber_105 : decode cX9_readNumber 105 = .ok (.istore 7, 2) := by decide +kernel
theorem dX9_readNumber_107 : decode cX9_readNumber 107 = .ok (.iload 6, 2) := by decide +kernel
theorem dX9_readNumber_109 : decode cX9_readNumber 109 = .ok (.ifCond .eq 114, 3) := by decide +kernel
theorem dX9_readNumber_112 : decode cX9_readNumber 112 = .ok (.aload_n 0, 1) := by decide +kernel
theorem dX9_readNumber_113 : decode cX9_readNumber 113 = .ok (.iload 4, 2) := by decide +kernel
theorem dX9_readNumber_115 : decode cX9_readNumber 115 = .ok (.invokevirtual 76, 3) := by decide +kernel
theorem dX9_readNumber_118 : decode cX9_readNumber 118 = .ok (.bipush 101, 2) := by decide +kernel
theorem dX9_readNumber_120 : decode cX9_readNumber 120 = .ok (.if_icmp .eq 14, 3) := by decide +kernel
theorem dX9_readNumber_123 : decode cX9_readNumber 123 = .ok (.aload_n 0, 1) := by decide +kernel
theorem dX9_readNumber_124 : decode cX9_readNumber 124 = .ok (.iload 4, 2) := by decide +kernel
theorem dX9_readNumber_126 : decode cX9_readNumber 126 = .ok (.invokevirtual 76, 3) := by decide +kernel
theorem dX9_readNumber_129 : decode cX9_readNumber 129 = .ok (.bipush 69, 2) := by decide +kernel
theorem dX9_readNumber_131 : decode cX9_readNumber 131 = .ok (.if_icmp .ne 92, 3) := by decide +kernel
theorem dX9_readNumber_134 : decode cX9_readNumber 134 = .ok (.aload_n 0, 1) := by decide +kernel
theorem dX9_readNumber_135 : decode cX9_readNumber 135 = .ok (.iload 4, 2) := by decide +kernel
theorem dX9_readNumber_137 : decode cX9_readNumber 137 = .ok (.iconst 1, 1) := by decide +kernel
theorem dX9_readNumber_138 : decode cX9_readNumber 138 = .ok (.iadd, 1) := by decide +kernel
theorem dX9_readNumber_139 : decode cX9_readNumber 139 = .ok (.invokevirtual 76, 3) := by decide +kernel
theorem dX9_readNumber_142 : decode cX9_readNumber 142 = .ok (.invokestatic 159, 3) := by decide +kernel
theorem dX9_readNumber_145 : decode cX9_readNumber 145 = .ok (.ifCond .eq 10, 3) := by decide +kernel
theorem dX9_readNumber_148 : decode cX9_readNumber 148 = .ok (.iload 4, 2) := by decide +kernel
theorem dX9_readNumber_150 : decode cX9_readNumber 150 = .ok (.iconst 2, 1) := by decide +kernel
theorem dX9_readNumber_151 : decode cX9_readNumber 151 = .ok (.iadd, 1) := by decide +kernel
theorem dX9_readNumber_152 : decode cX9_readNumber 152 = .ok (.goto 7, 3) := by decide +kernel
theorem dX9_readNumber_155 : decode cX9_readNumber 155 = .ok (.iload 4, 2) := by decide +kernel
theorem dX9_readNumber_157 : decode cX9_readNumber 157 = .ok (.iconst 1, 1) := by decide +kernel
theorem dX9_readNumber_158 : decode cX9_readNumber 158 = .ok (.iadd, 1) := by decide +kernel
theorem dX9_readNumber_159 : decode cX9_readNumber 159 = .ok (.istore 8, 2) := by decide +kernel
theorem dX9_readNumber_161 : decode cX9_readNumber 161 = .ok (.aload_n 0, 1) := by decide +kernel
theorem dX9_readNumber_162 : decode cX9_readNumber 162 = .ok (.iload 8, 2) := by decide +kernel
theorem dX9_readNumber_164 : decode cX9_readNumber 164 = .ok (.invokevirtual 162, 3) := by decide +kernel
theorem dX9_readNumber_167 : decode cX9_readNumber 167 = .ok (.istore 9, 2) := by decide +kernel
theorem dX9_readNumber_169 : decode cX9_readNumber 169 = .ok (.iload 9, 2) := by decide +kernel
theorem dX9_readNumber_171 : decode cX9_readNumber 171 = .ok (.ifCond .le 7, 3) := by decide +kernel
theorem dX9_readNumber_174 : decode cX9_readNumber 174 = .ok (.iconst 1, 1) := by decide +kernel
theorem dX9_readNumber_175 : decode cX9_readNumber 175 = .ok (.goto 4, 3) := by decide +kernel
theorem dX9_readNumber_178 : decode cX9_readNumber 178 = .ok (.iconst 0, 1) := by decide +kernel
theorem dX9_readNumber_179 : decode cX9_readNumber 179 = .ok (.istore 6, 2) := by decide +kernel
theorem dX9_readNumber_181 : decode cX9_readNumber 181 = .ok (.aload_n 0, 1) := by decide +kernel
theorem dX9_readNumber_182 : decode cX9_readNumber 182 = .ok (.iload 4, 2) := by decide +kernel
theorem dX9_readNumber_184 : decode cX9_readNumber 184 = .ok (.iconst 1, 1) := by decide +kernel
theorem dX9_readNumber_185 : decode cX9_readNumber 185 = .ok (.iadd, 1) := by decide +kernel
theorem dX9_readNumber_186 : decode cX9_readNumber 186 = .ok (.invokevirtual 76, 3) := by decide +kernel
theorem dX9_readNumber_189 : decode cX9_readNumber 189 = .ok (.bipush 45, 2) := by decide +kernel
theorem dX9_readNumber_191 : decode cX9_readNumber 191 = .ok (.if_icmp .ne 15, 3) := by decide +kernel
theorem dX9_readNumber_194 : decode cX9_readNumber 194 = .ok (.aload_n 0, 1) := by decide +kernel
theorem dX9_readNumber_195 : decode cX9_readNumber 195 = .ok (.iload 8, 2) := by decide +kernel
theorem dX9_readNumber_197 : decode cX9_readNumber 197 = .ok (.iload 9, 2) := by decide +kernel
theorem dX9_readNumber_199 : decode cX9_readNumber 199 = .ok (.invokevirtual 165, 3) := by decide +kernel
theorem dX9_readNumber_202 : decode cX9_readNumber 202 = .ok (.ineg, 1) := by decide +kernel
theorem dX9_readNumber_203 : decode cX9_readNumber 203 = .ok (.goto 11, 3) := by decide +kernel
theorem dX9_readNumber_206 : decode cX9_readNumber 206 = .ok (.aload_n 0, 1) := by decide +kernel
theorem dX9_readNumber_207 : decode cX9_readNumber 207 = .ok (.iload 8, 2) := by decide +kernel
theorem dX9_readNumber_209 : decode cX9_readNumber 209 = .ok (.iload 9, 2) := by decide +kernel
theorem dX9_readNumber_211 : decode cX9_readNumber 211 = .ok (.invokevirtual 165, 3) := by decide +kernel
theorem dX9_readNumber_214 : decode cX9_readNumber 214 = .ok (.istore 7, 2) := by decide +kernel
theorem dX9_readNumber_216 : decode cX9_readNumber 216 = .ok (.iload 8, 2) := by decide +kernel
theorem dX9_readNumber_218 : decode cX9_readNumber 218 = .ok (.iload 9, 2) := by decide +kernel
theorem dX9_readNumber_220 : decode cX9_readNumber 220 = .ok (.iadd, 1) := by decide +kernel
theorem dX9_readNumber_221 : decode cX9_readNumber 221 = .ok (.istore 4, 2) := by decide +kernel
theorem dX9_readNumber_223 : decode cX9_readNumber 223 = .ok (.aload_n 0, 1) := by decide +kernel
theorem dX9_readNumber_224 : decode cX9_readNumber 224 = .ok (.iload 4, 2) := by decide +kernel
theorem dX9_readNumber_226 : decode cX9_readNumber 226 = .ok (.invokevirtual 76, 3) := by decide +kernel
theorem dX9_readNumber_229 : decode cX9_readNumber 229 = .ok (.istore 8, 2) := by decide +kernel
theorem dX9_readNumber_231 : decode cX9_readNumber 231 = .ok (.iload 6, 2) := by decide +kernel
theorem dX9_readNumber_233 : decode cX9_readNumber 233 = .ok (.ifCond .eq 19, 3) := by decide +kernel
theorem dX9_readNumber_236 : decode cX9_readNumber 236 = .ok (.iload 8, 2) := by decide +kernel
theorem dX9_readNumber_238 : decode cX9_readNumber 238 = .ok (.invokestatic 83, 3) := by decide +kernel
theorem dX9_readNumber_241 : decode cX9_readNumber 241 = .ok (.ifCond .ne 11, 3) := by decide +kernel
theorem dX9_readNumber_244 : decode cX9_readNumber 244 = .ok (.iload 8, 2) := by decide +kernel
theorem dX9_readNumber_246 : decode cX9_readNumber 246 = .ok (.invokestatic 80, 3) := by decide +kernel
theorem dX9_readNumber_249 : decode cX9_readNumber 249 = .ok (.ifCond .eq 9, 3) := by decide +kernel
theorem dX9_readNumber_252 : decode cX9_readNumber 252 = .ok (.aload_n 0, 1) := by decide +kernel
theorem dX9_readNumber_253 : decode cX9_readNumber 253 = .ok (.iconst 4, 1) := by decide +kernel
theorem dX9_readNumber_254 : decode cX9_readNumber 254 = .ok (.invokevirtual 72, 3) := by decide +kernel
theorem dX9_readNumber_257 : decode cX9_readNumber 257 = .ok (.ireturn, 1) := by decide +kernel
theorem dX9_readNumber_258 : decode cX9_readNumber 258 = .ok (.aload_n 0, 1) := by decide +kernel
theorem dX9_readNumber_259 : decode cX9_readNumber 259 = .ok (.iload_n 2, 1) := by decide +kernel
theorem dX9_readNumber_260 : decode cX9_readNumber 260 = .ok (.iload_n 3, 1) := by decide +kernel
theorem dX9_readNumber_261 : decode cX9_readNumber 261 = .ok (.iload 5, 2) := by decide +kernel
theorem dX9_readNumber_263 : decode cX9_readNumber 263 = .ok (.iload 7, 2) := by decide +kernel
theorem dX9_readNumber_265 : decode cX9_readNumber 265 = .ok (.aload_n 0, 1) := by decide +kernel
theorem dX9_readNumber_266 : decode cX9_readNumber 266 = .ok (.getfield 18, 3) := by decide +kernel
theorem dX9_readNumber_269 : decode cX9_readNumber 269 = .ok (.iadd, 1) := by decide +kernel
theorem dX9_readNumber_270 : decode cX9_readNumber 270 = .ok (.invokevirtual 168, 3) := by decide +kernel
theorem dX9_readNumber_273 : decode cX9_readNumber 273 = .ok (.lstore 9, 2) := by decide +kernel
theorem dX9_readNumber_275 : decode cX9_readNumber 275 = .ok (.lload 9, 2) := by decide +kernel
theorem dX9_readNumber_277 : decode cX9_readNumber 277 = .ok (.ldc2_w 172, 3) := by decide +kernel
theorem dX9_readNumber_280 : decode cX9_readNumber 280 = .ok (.lcmp, 1) := by decide +kernel
theorem dX9_readNumber_281 : decode cX9_readNumber 281 = .ok (.ifCond .le 9, 3) := by decide +kernel
theorem dX9_readNumber_284 : decode cX9_readNumber 284 = .ok (.aload_n 0, 1) := by decide +kernel
theorem dX9_readNumber_285 : decode cX9_readNumber 285 = .ok (.iconst 5, 1) := by decide +kernel
theorem dX9_readNumber_286 : decode cX9_readNumber 286 = .ok (.invokevirtual 72, 3) := by decide +kernel
theorem dX9_readNumber_289 : decode cX9_readNumber 289 = .ok (.ireturn, 1) := by decide +kernel
theorem dX9_readNumber_290 : decode cX9_readNumber 290 = .ok (.aload_n 0, 1) := by decide +kernel
theorem dX9_readNumber_291 : decode cX9_readNumber 291 = .ok (.iload_n 1, 1) := by decide +kernel
theorem dX9_readNumber_292 : decode cX9_readNumber 292 = .ok (.bipush 45, 2) := by decide +kernel
theorem dX9_readNumber_294 : decode cX9_readNumber 294 = .ok (.if_icmp .ne 9, 3) := by decide +kernel
theorem dX9_readNumber_297 : decode cX9_readNumber 297 = .ok (.lload 9, 2) := by decide +kernel
theorem dX9_readNumber_299 : decode cX9_readNumber 299 = .ok (.lneg, 1) := by decide +kernel
theorem dX9_readNumber_300 : decode cX9_readNumber 300 = .ok (.goto 5, 3) := by decide +kernel
theorem dX9_readNumber_303 : decode cX9_readNumber 303 = .ok (.lload 9, 2) := by decide +kernel
theorem dX9_readNumber_305 : decode cX9_readNumber 305 = .ok (.l2i, 1) := by decide +kernel
theorem dX9_readNumber_306 : decode cX9_readNumber 306 = .ok (.putfield 153, 3) := by decide +kernel
theorem dX9_readNumber_309 : decode cX9_readNumber 309 = .ok (.aload_n 0, 1) := by decide +kernel
theorem dX9_readNumber_310 : decode cX9_readNumber 310 = .ok (.iload 4, 2) := by decide +kernel
theorem dX9_readNumber_312 : decode cX9_readNumber 312 = .ok (.putfield 44, 3) := by decide +kernel
theorem dX9_readNumber_315 : decode cX9_readNumber 315 = .ok (.iconst 1, 1) := by decide +kernel
theorem dX9_readNumber_316 : decode cX9_readNumber 316 = .ok (.ireturn, 1) := by decide +kernel
theorem dX9_isSign_0 : decode cX9_isSign 0 = .ok (.iload_n 0, 1) := by decide +kernel
theorem dX9_isSign_1 : decode cX9_isSign 1 = .ok (.bipush 43, 2) := by decide +kernel
theorem dX9_isSign_3 : decode cX9_isSign 3 = .ok (.if_icmp .eq 9, 3) := by decide +kernel
theorem dX9_isSign_6 : decode cX9_isSign 6 = .ok (.iload_n 0, 1) := by decide +kernel
theorem dX9_isSign_7 : decode cX9_isSign 7 = .ok (.bipush 45, 2) := by decide +kernel
theorem dX9_isSign_9 : decode cX9_isSign 9 = .ok (.if_icmp .ne 7, 3) := by decide +kernel
theorem dX9_isSign_12 : decode cX9_isSign 12 = .ok (.iconst 1, 1) := by decide +kernel
theorem dX9_isSign_13 : decode cX9_isSign 13 = .ok (.goto 4, 3) := by decide +kernel
theorem dX9_isSign_16 : decode cX9_isSign 16 = .ok (.iconst 0, 1) := by decide +kernel
theorem dX9_isSign_17 : decode cX9_isSign 17 = .ok (.ireturn, 1) := by decide +kernel
theorem dX9_digitsFrom_0 : decode cX9_digitsFrom 0 = .ok (.iload_n 1, 1) := by decide +kernel
theorem dX9_digitsFrom_1 : decode cX9_digitsFrom 1 = .ok (.istore_n 2, 1) := by decide +kernel
theorem dX9_digitsFrom_2 : decode cX9_digitsFrom 2 = .ok (.iload_n 2, 1) := by decide +kernel
theorem dX9_digitsFrom_3 : decode cX9_digitsFrom 3 = .ok (.aload_n 0, 1) := by decide +kernel
theorem dX9_digitsFrom_4 : decode cX9_digitsFrom 4 = .ok (.getfield 41, 3) := by decide +kernel
theorem dX9_digitsFrom_7 : decode cX9_digitsFrom 7 = .ok (.if_icmp .ge 20, 3) := by decide +kernel
theorem dX9_digitsFrom_10 : decode cX9_digitsFrom 10 = .ok (.aload_n 0, 1) := by decide +kernel
theorem dX9_digitsFrom_11 : decode cX9_digitsFrom 11 = .ok (.iload_n 2, 1) := by decide +kernel
theorem dX9_digitsFrom_12 : decode cX9_digitsFrom 12 = .ok (.invokevirtual 76, 3) := by decide +kernel
theorem dX9_digitsFrom_15 : decode cX9_digitsFrom 15 = .ok (.invokestatic 174, 3) := by decide +kernel
theorem dX9_digitsFrom_18 : decode cX9_digitsFrom 18 = .ok (.ifCond .eq 9, 3) := by decide +kernel
theorem dX9_digitsFrom_21 : decode cX9_digitsFrom 21 = .ok (.iinc 2 1, 3) := by decide +kernel
theorem dX9_digitsFrom_24 : decode cX9_digitsFrom 24 = .ok (.goto (-22), 3) := by decide +kernel
theorem dX9_digitsFrom_27 : decode cX9_digitsFrom 27 = .ok (.iload_n 2, 1) := by decide +kernel
theorem dX9_digitsFrom_28 : decode cX9_digitsFrom 28 = .ok (.iload_n 1, 1) := by decide +kernel
theorem dX9_digitsFrom_29 : decode cX9_digitsFrom 29 = .ok (.isub, 1) := by decide +kernel
theorem dX9_digitsFrom_30 : decode cX9_digitsFrom 30 = .ok (.ireturn, 1) := by decide +kernel
theorem dX9_exponentFrom_0 : decode cX9_exponentFrom 0 = .ok (.iconst 0, 1) := by decide +kernel
theorem dX9_exponentFrom_1 : decode cX9_exponentFrom 1 = .ok (.istore_n 3, 1) := by decide +kernel
theorem dX9_exponentFrom_2 : decode cX9_exponentFrom 2 = .ok (.iconst 0, 1) := by decide +kernel
theorem dX9_exponentFrom_3 : decode cX9_exponentFrom 3 = .ok (.istore 4, 2) := by decide +kernel
theorem dX9_exponentFrom_5 : decode cX9_exponentFrom 5 = .ok (.iload 4, 2) := by decide +kernel
theorem dX9_exponentFrom_7 : decode cX9_exponentFrom 7 = .ok (.iload_n 2, 1) := by decide +kernel
theorem dX9_exponentFrom_8 : decode cX9_exponentFrom 8 = .ok (.if_icmp .ge 31, 3) := by decide +kernel
theorem dX9_exponentFrom_11 : decode cX9_exponentFrom 11 = .ok (.iload_n 3, 1) := by decide +kernel
theorem dX9_exponentFrom_12 : decode cX9_exponentFrom 12 = .ok (.bipush 10, 2) := by decide +kernel
theorem dX9_exponentFrom_14 : decode cX9_exponentFrom 14 = .ok (.imul, 1) := by decide +kernel
theorem dX9_exponentFrom_15 : decode cX9_exponentFrom 15 = .ok (.aload_n 0, 1) := by decide +kernel
theorem dX9_exponentFrom_16 : decode cX9_exponentFrom 16 = .ok (.iload_n 1, 1) := by decide +kernel
theorem dX9_exponentFrom_17 : decode cX9_exponentFrom 17 = .ok (.iload 4, 2) := by decide +kernel
theorem dX9_exponentFrom_19 : decode cX9_exponentFrom 19 = .ok (.iadd, 1) := by decide +kernel
theorem dX9_exponentFrom_20 : decode cX9_exponentFrom 20 = .ok (.invokevirtual 76, 3) := by decide +kernel
theorem dX9_exponentFrom_23 : decode cX9_exponentFrom 23 = .ok (.iadd, 1) := by decide +kernel
theorem dX9_exponentFrom_24 : decode cX9_exponentFrom 24 = .ok (.bipush 48, 2) := by decide +kernel
theorem dX9_exponentFrom_26 : decode cX9_exponentFrom 26 = .ok (.isub, 1) := by decide +kernel
theorem dX9_exponentFrom_27 : decode cX9_exponentFrom 27 = .ok (.ldc 177, 2) := by decide +kernel
theorem dX9_exponentFrom_29 : decode cX9_exponentFrom 29 = .ok (.invokestatic 35, 3) := by decide +kernel
theorem dX9_exponentFrom_32 : decode cX9_exponentFrom 32 = .ok (.istore_n 3, 1) := by decide +kernel
theorem dX9_exponentFrom_33 : decode cX9_exponentFrom 33 = .ok (.iinc 4 1, 3) := by decide +kernel
theorem dX9_exponentFrom_36 : decode cX9_exponentFrom 36 = .ok (.goto (-31), 3) := by decide +kernel
theorem dX9_exponentFrom_39 : decode cX9_exponentFrom 39 = .ok (.iload_n 3, 1) := by decide +kernel
theorem dX9_exponentFrom_40 : decode cX9_exponentFrom 40 = .ok (.ireturn, 1) := by decide +kernel
