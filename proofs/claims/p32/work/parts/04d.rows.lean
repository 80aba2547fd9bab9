theorem dX5_lowX_0 : decode cX5_lowX 0 = .ok (.aload_n 0, 1) := by decide +kernel
theorem dX5_lowX_1 : decode cX5_lowX 1 = .ok (.getfield 7, 3) := by decide +kernel
theorem dX5_lowX_4 : decode cX5_lowX 4 = .ok (.iload_n 1, 1) := by decide +kernel
theorem dX5_lowX_5 : decode cX5_lowX 5 = .ok (.iaload, 1) := by decide +kernel
theorem dX5_lowX_6 : decode cX5_lowX 6 = .ok (.aload_n 0, 1) := by decide +kernel
theorem dX5_lowX_7 : decode cX5_lowX 7 = .ok (.getfield 16, 3) := by decide +kernel
theorem dX5_lowX_10 : decode cX5_lowX 10 = .ok (.iload_n 1, 1) := by decide +kernel
theorem dX5_lowX_11 : decode cX5_lowX 11 = .ok (.iaload, 1) := by decide +kernel
theorem dX5_lowX_12 : decode cX5_lowX 12 = .ok (.invokestatic 37, 3) := by decide +kernel
theorem dX5_lowX_15 : decode cX5_lowX 15 = .ok (.ireturn, 1) := by decide +kernel
theorem dX5_highX_0 : decode cX5_highX 0 = .ok (.aload_n 0, 1) := by decide +kernel
theorem dX5_highX_1 : decode cX5_highX 1 = .ok (.getfield 7, 3) := by decide +kernel
theorem dX5_highX_4 : decode cX5_highX 4 = .ok (.iload_n 1, 1) := by decide +kernel
theorem dX5_highX_5 : decode cX5_highX 5 = .ok (.iaload, 1) := by decide +kernel
theorem dX5_highX_6 : decode cX5_highX 6 = .ok (.aload_n 0, 1) := by decide +kernel
theorem dX5_highX_7 : decode cX5_highX 7 = .ok (.getfield 16, 3) := by decide +kernel
theorem dX5_highX_10 : decode cX5_highX 10 = .ok (.iload_n 1, 1) := by decide +kernel
theorem dX5_highX_11 : decode cX5_highX 11 = .ok (.iaload, 1) := by decide +kernel
theorem dX5_highX_12 : decode cX5_highX 12 = .ok (.invokestatic 43, 3) := by decide +kernel
theorem dX5_highX_15 : decode cX5_highX 15 = .ok (.ireturn, 1) := by decide +kernel
theorem dX5_lowY_0 : decode cX5_lowY 0 = .ok (.aload_n 0, 1) := by decide +kernel
theorem dX5_lowY_1 : decode cX5_lowY 1 = .ok (.getfield 13, 3) := by decide +kernel
theorem dX5_lowY_4 : decode cX5_lowY 4 = .ok (.iload_n 1, 1) := by decide +kernel
theorem dX5_lowY_5 : decode cX5_lowY 5 = .ok (.iaload, 1) := by decide +kernel
theorem dX5_lowY_6 : decode cX5_lowY 6 = .ok (.aload_n 0, 1) := by decide +kernel
theorem dX5_lowY_7 : decode cX5_lowY 7 = .ok (.getfield 19, 3) := by decide +kernel
theorem dX5_lowY_10 : decode cX5_lowY 10 = .ok (.iload_n 1, 1) := by decide +kernel
theorem dX5_lowY_11 : decode cX5_lowY 11 = .ok (.iaload, 1) := by decide +kernel
theorem dX5_lowY_12 : decode cX5_lowY 12 = .ok (.invokestatic 37, 3) := by decide +kernel
theorem dX5_lowY_15 : decode cX5_lowY 15 = .ok (.ireturn, 1) := by decide +kernel
theorem dX5_highY_0 : decode cX5_highY 0 = .ok (.aload_n 0, 1) := by decide +kernel
theorem dX5_highY_1 : decode cX5_highY 1 = .ok (.getfield 13, 3) := by decide +kernel
theorem dX5_highY_4 : decode cX5_highY 4 = .ok (.iload_n 1, 1) := by decide +kernel
theorem dX5_highY_5 : decode cX5_highY 5 = .ok (.iaload, 1) := by decide +kernel
theorem dX5_highY_6 : decode cX5_highY 6 = .ok (.aload_n 0, 1) := by decide +kernel
theorem dX5_highY_7 : decode cX5_highY 7 = .ok (.getfield 19, 3) := by decide +kernel
theorem dX5_highY_10 : decode cX5_highY 10 = .ok (.iload_n 1, 1) := by decide +kernel
theorem dX5_highY_11 : decode cX5_highY 11 = .ok (.iaload, 1) := by decide +kernel
theorem dX5_highY_12 : decode cX5_highY 12 = .ok (.invokestatic 43, 3) := by decide +kernel
theorem dX5_highY_15 : decode cX5_highY 15 = .ok (.ireturn, 1) := by decide +kernel
theorem dX5_begins_0 : decode cX5_begins 0 = .ok (.aload_n 0, 1) := by decide +kernel
theorem dX5_begins_1 : decode cX5_begins 1 = .ok (.getfield 7, 3) := by decide +kernel
theorem dX5_begins_4 : decode cX5_begins 4 = .ok (.iload_n 1, 1) := by decide +kernel
theorem dX5_begins_5 : decode cX5_begins 5 = .ok (.iaload, 1) := by decide +kernel
theorem dX5_begins_6 : decode cX5_begins 6 = .ok (.iload_n 2, 1) := by decide +kernel
theorem dX5_begins_7 : decode cX5_begins 7 = .ok (.if_icmp .ne 17, 3) := by decide +kernel
theorem dX5_begins_10 : decode cX5_begins 10 = .ok (.aload_n 0, 1) := by decide +kernel
theorem dX5_begins_11 : decode cX5_begins 11 = .ok (.getfield 13, 3) := by decide +kernel
theorem dX5_begins_14 : decode cX5_begins 14 = .ok (.iload_n 1, 1) := by decide +kernel
theorem dX5_begins_15 : decode cX5_begins 15 = .ok (.iaload, 1) := by decide +kernel
theorem dX5_begins_16 : decode cX5_begins 16 = .ok (.iload_n 3, 1) := by decide +kernel
theorem dX5_begins_17 : decode cX5_begins 17 = .ok (.if_icmp .ne 7, 3) := by decide +kernel
theorem dX5_begins_20 : decode cX5_begins 20 = .ok (.iconst 1, 1) := by decide +kernel
theorem dX5_begins_21 : decode cX5_begins 21 = .ok (.goto 4, 3) := by decide +kernel
theorem dX5_begins_24 : decode cX5_begins 24 = .ok (.iconst 0, 1) := by decide +kernel
theorem dX5_begins_25 : decode cX5_begins 25 = .ok (.ireturn, 1) := by decide +kernel
theorem dX5_ends_0 : decode cX5_ends 0 = .ok (.aload_n 0, 1) := by decide +kernel
theorem dX5_ends_1 : decode cX5_ends 1 = .ok (.getfield 16, 3) := by decide +kernel
theorem dX5_ends_4 : decode cX5_ends 4 = .ok (.iload_n 1, 1) := by decide +kernel
theorem dX5_ends_5 : decode cX5_ends 5 = .ok (.iaload, 1) := by decide +kernel
theorem dX5_ends_6 : decode cX5_ends 6 = .ok (.iload_n 2, 1) := by decide +kernel
theorem dX5_ends_7 : decode cX5_ends 7 = .ok (.if_icmp .ne 17, 3) := by decide +kernel
theorem dX5_ends_10 : decode cX5_ends 10 = .ok (.aload_n 0, 1) := by decide +kernel
theorem dX5_ends_11 : decode cX5_ends 11 = .ok (.getfield 19, 3) := by decide +kernel
theorem dX5_ends_14 : decode cX5_ends 14 = .ok (.iload_n 1, 1) := by decide +kernel
theorem dX5_ends_15 : decode cX5_ends 15 = .ok (.iaload, 1) := by decide +kernel
theorem dX5_ends_16 : decode cX5_ends 16 = .ok (.iload_n 3, 1) := by decide +kernel
theorem dX5_ends_17 : decode cX5_ends 17 = .ok (.if_icmp .ne 7, 3) := by decide +kernel
theorem dX5_ends_20 : decode cX5_ends 20 = .ok (.iconst 1, 1) := by decide +kernel
theorem dX5_ends_21 : decode cX5_ends 21 = .ok (.goto 4, 3) := by decide +kernel
theorem dX5_ends_24 : decode cX5_ends 24 = .ok (.iconst 0, 1) := by decide +kernel
theorem dX5_ends_25 : decode cX5_ends 25 = .ok (.ireturn, 1) := by decide +kernel
theorem dX5_areApart_0 : decode cX5_areApart 0 = .ok (.aload_n 0, 1) := by decide +kernel
theorem dX5_areApart_1 : decode cX5_areApart 1 = .ok (.iload_n 1, 1) := by decide +kernel
theorem dX5_areApart_2 : decode cX5_areApart 2 = .ok (.invokevirtual 46, 3) := by decide +kernel
theorem dX5_areApart_5 : decode cX5_areApart 5 = .ok (.aload_n 0, 1) := by decide +kernel
theorem dX5_areApart_6 : decode cX5_areApart 6 = .ok (.iload_n 2, 1) := by decide +kernel
theorem dX5_areApart_7 : decode cX5_areApart 7 = .ok (.invokevirtual 50, 3) := by decide +kernel
theorem dX5_areApart_10 : decode cX5_areApart 10 = .ok (.if_icmp .gt 42, 3) := by decide +kernel
theorem dX5_areApart_13 : decode cX5_areApart 13 = .ok (.aload_n 0, 1) := by decide +kernel
theorem dX5_areApart_14 : decode cX5_areApart 14 = .ok (.iload_n 2, 1) := by decide +kernel
theorem dX5_areApart_15 : decode cX5_areApart 15 = .ok (.invokevirtual 46, 3) := by decide +kernel
theorem dX5_areApart_18 : decode cX5_areApart 18 = .ok (.aload_n 0, 1) := by decide +kernel
theorem dX5_areApart_19 : decode cX5_areApart 19 = .ok (.iload_n 1, 1) := by decide +kernel
theorem dX5_areApart_20 : decode cX5_areApart 20 = .ok (.invokevirtual 50, 3) := by decide +kernel
theorem dX5_areApart_23 : decode cX5_areApart 23 = .ok (.if_icmp .gt 29, 3) := by decide +kernel
theorem dX5_areApart_26 : decode cX5_areApart 26 = .ok (.aload_n 0, 1) := by decide +kernel
theorem dX5_areApart_27 : decode cX5_areApart 27 = .ok (.iload_n 1, 1) := by decide +kernel
theorem dX5_areApart_28 : decode cX5_areApart 28 = .ok (.invokevirtual 53, 3) := by decide +kernel
theorem dX5_areApart_31 : decode cX5_areApart 31 = .ok (.aload_n 0, 1) := by decide +kernel
theorem dX5_areApart_32 : decode cX5_areApart 32 = .ok (.iload_n 2, 1) := by decide +kernel
theorem dX5_areApart_33 : decode cX5_areApart 33 = .ok (.invokevirtual 56, 3) := by decide +kernel
theorem dX5_areApart_36 : decode cX5_areApart 36 = .ok (.if_icmp .gt 16, 3) := by decide +kernel
theorem dX5_areApart_39 : decode cX5_areApart 39 = .ok (.aload_n 0, 1) := by decide +kernel
theorem dX5_areApart_40 : decode cX5_areApart 40 = .ok (.iload_n 2, 1) := by decide +kernel
theorem dX5_areApart_41 : decode cX5_areApart 41 = .ok (.invokevirtual 53, 3) := by decide +kernel
theorem dX5_areApart_44 : decode cX5_areApart 44 = .ok (.aload_n 0, 1) := by decide +kernel
theorem dX5_areApart_45 : decode cX5_areApart 45 = .ok (.iload_n 1, 1) := by decide +kernel
theorem dX5_areApart_46 : decode cX5_areApart 46 = .ok (.invokevirtual 56, 3) := by decide +kernel
theorem dX5_areApart_49 : decode cX5_areApart 49 = .ok (.if_icmp .le 7, 3) := by decide +kernel
theorem dX5_areApart_52 : decode cX5_areApart 52 = .ok (.iconst 1, 1) := by decide +kernel
theorem dX5_areApart_53 : decode cX5_areApart 53 = .ok (.goto 4, 3) := by decide +kernel
theorem dX5_areApart_56 : decode cX5_areApart 56 = .ok (.iconst 0, 1) := by decide +kernel
theorem dX5_areApart_57 : decode cX5_areApart 57 = .ok (.ireturn, 1) := by decide +kernel
theorem dX5_turn_0 : decode cX5_turn 0 = .ok (.aload_n 0, 1) := by decide +kernel
theorem dX5_turn_1 : decode cX5_turn 1 = .ok (.getfield 7, 3) := by decide +kernel
theorem dX5_turn_4 : decode cX5_turn 4 = .ok (.iload_n 1, 1) := by decide +kernel
theorem dX5_turn_5 : decode cX5_turn 5 = .ok (.iaload, 1) := by decide +kernel
theorem dX5_turn_6 : decode cX5_turn 6 = .ok (.i2l, 1) := by decide +kernel
theorem dX5_turn_7 : decode cX5_turn 7 = .ok (.aload_n 0, 1) := by decide +kernel
theorem dX5_turn_8 : decode cX5_turn 8 = .ok (.getfield 13, 3) := by decide +kernel
theorem dX5_turn_11 : decode cX5_turn 11 = .ok (.iload_n 1, 1) := by decide +kernel
theorem dX5_turn_12 : decode cX5_turn 12 = .ok (.iaload, 1) := by decide +kernel
theorem dX5_turn_13 : decode cX5_turn 13 = .ok (.i2l, 1) := by decide +kernel
theorem dX5_turn_14 : decode cX5_turn 14 = .ok (.aload_n 0, 1) := by decide +kernel
theorem dX5_turn_15 : decode cX5_turn 15 = .ok (.getfield 16, 3) := by decide +kernel
theorem dX5_turn_18 : decode cX5_turn 18 = .ok (.iload_n 1, 1) := by decide +kernel
theorem dX5_turn_19 : decode cX5_turn 19 = .ok (.iaload, 1) := by decide +kernel
theorem dX5_turn_20 : decode cX5_turn 20 = .ok (.i2l, 1) := by decide +kernel
theorem dX5_turn_21 : decode cX5_turn 21 = .ok (.aload_n 0, 1) := by decide +kernel
theorem dX5_turn_22 : decode cX5_turn 22 = .ok (.getfield 19, 3) := by decide +kernel
theorem dX5_turn_25 : decode cX5_turn 25 = .ok (.iload_n 1, 1) := by decide +kernel
theorem dX5_turn_26 : decode cX5_turn 26 = .ok (.iaload, 1) := by decide +kernel
theorem dX5_turn_27 : decode cX5_turn 27 = .ok (.i2l, 1) := by decide +kernel
theorem dX5_turn_28 : decode cX5_turn 28 = .ok (.iload_n 2, 1) := by decide +kernel
theorem dX5_turn_29 : decode cX5_turn 29 = .ok (.i2l, 1) := by decide +kernel
theorem dX5_turn_30 : decode cX5_turn 30 = .ok (.iload_n 3, 1) := by decide +kernel
theorem dX5_turn_31 : decode cX5_turn 31 = .ok (.i2l, 1) := by decide +kernel
theorem dX5_turn_32 : decode cX5_turn 32 = .ok (.invokestatic 59, 3) := by decide +kernel
theorem dX5_turn_35 : decode cX5_turn 35 = .ok (.ireturn, 1) := by decide +kernel
theorem dX5_holds_0 : decode cX5_holds 0 = .ok (.aload_n 0, 1) := by decide +kernel
theorem dX5_holds_1 : decode cX5_holds 1 = .ok (.getfield 7, 3) := by decide +kernel
theorem dX5_holds_4 : decode cX5_holds 4 = .ok (.iload_n 1, 1) := by decide +kernel
theorem dX5_holds_5 : decode cX5_holds 5 = .ok (.iaload, 1) := by decide +kernel
theorem dX5_holds_6 : decode cX5_holds 6 = .ok (.aload_n 0, 1) := by decide +kernel
theorem dX5_holds_7 : decode cX5_holds 7 = .ok (.getfield 13, 3) := by decide +kernel
theorem dX5_holds_10 : decode cX5_holds 10 = .ok (.iload_n 1, 1) := by decide +kernel
theorem dX5_holds_11 : decode cX5_holds 11 = .ok (.iaload, 1) := by decide +kernel
theorem dX5_holds_12 : decode cX5_holds 12 = .ok (.aload_n 0, 1) := by decide +kernel
theorem dX5_holds_13 : decode cX5_holds 13 = .ok (.getfield 16, 3) := by decide +kernel
theorem dX5_holds_16 : decode cX5_holds 16 = .ok (.iload_n 1, 1) := by decide +kernel
theorem dX5_holds_17 : decode cX5_holds 17 = .ok (.iaload, 1) := by decide +kernel
theorem dX5_holds_18 : decode cX5_holds 18 = .ok (.aload_n 0, 1) := by decide +kernel
theorem dX5_holds_19 : decode cX5_holds 19 = .ok (.getfield 19, 3) := by decide +kernel
theorem dX5_holds_22 : decode cX5_holds 22 = .ok (.iload_n 1, 1) := by decide +kernel
theorem dX5_holds_23 : decode cX5_holds 23 = .ok (.iaload, 1) := by decide +kernel
theorem dX5_holds_24 : decode cX5_holds 24 = .ok (.iload_n 2, 1) := by decide +kernel
theorem dX5_holds_25 : decode cX5_holds 25 = .ok (.iload_n 3, 1) := by decide +kernel
theorem dX5_holds_26 : decode cX5_holds 26 = .ok (.invokestatic 65, 3) := by decide +kernel
theorem dX5_holds_29 : decode cX5_holds 29 = .ok (.ireturn, 1) := by decide +kernel
theorem dX5_meet_0 : decode cX5_meet 0 = .ok (.aload_n 0, 1) := by decide +kernel
theorem dX5_meet_1 : decode cX5_meet 1 = .ok (.iload_n 1, 1) := by decide +kernel
theorem dX5_meet_2 : decode cX5_meet 2 = .ok (.iload_n 2, 1) := by decide +kernel
theorem dX5_meet_3 : decode cX5_meet 3 = .ok (.invokevirtual 69, 3) := by decide +kernel
theorem dX5_meet_6 : decode cX5_meet 6 = .ok (.ifCond .eq 5, 3) := by decide +kernel
theorem dX5_meet_9 : decode cX5_meet 9 = .ok (.iconst 0, 1) := by decide +kernel
theorem dX5_meet_10 : decode cX5_meet 10 = .ok (.ireturn, 1) := by decide +kernel
theorem dX5_meet_11 : decode cX5_meet 11 = .ok (.aload_n 0, 1) := by decide +kernel
theorem dX5_meet_12 : decode cX5_meet 12 = .ok (.iload_n 1, 1) := by decide +kernel
theorem dX5_meet_13 : decode cX5_meet 13 = .ok (.aload_n 0, 1) := by decide +kernel
theorem dX5_meet_14 : decode cX5_meet 14 = .ok (.getfield 7, 3) := by decide +kernel
theorem dX5_meet_17 : decode cX5_meet 17 = .ok (.iload_n 2, 1) := by decide +kernel
theorem dX5_meet_18 : decode cX5_meet 18 = .ok (.iaload, 1) := by decide +kernel
theorem dX5_meet_19 : decode cX5_meet 19 = .ok (.aload_n 0, 1) := by decide +kernel
theorem dX5_meet_20 : decode cX5_meet 20 = .ok (.getfield 13, 3) := by decide +kernel
theorem dX5_meet_23 : decode cX5_meet 23 = .ok (.iload_n 2, 1) := by decide +kernel
theorem dX5_meet_24 : decode cX5_meet 24 = .ok (.iaload, 1) := by decide +kernel
theorem dX5_meet_25 : decode cX5_meet 25 = .ok (.invokevirtual 73, 3) := by decide +kernel
theorem dX5_meet_28 : decode cX5_meet 28 = .ok (.istore_n 3, 1) := by decide +kernel
theorem dX5_meet_29 : decode cX5_meet 29 = .ok (.aload_n 0, 1) := by decide +kernel
theorem dX5_meet_30 : decode cX5_meet 30 = .ok (.iload_n 1, 1) := by decide +kernel
theorem dX5_meet_31 : decode cX5_meet 31 = .ok (.aload_n 0, 1) := by decide +kernel
theorem dX5_meet_32 : decode cX5_meet 32 = .ok (.getfield 16, 3) := by decide +kernel
theorem dX5_meet_35 : decode cX5_meet 35 = .ok (.iload_n 2, 1) := by decide +kernel
theorem dX5_meet_36 : decode cX5_meet 36 = .ok (.iaload, 1) := by decide +kernel
theorem dX5_meet_37 : decode cX5_meet 37 = .ok (.aload_n 0, 1) := by decide +kernel
theorem dX5_meet_38 : decode cX5_meet 38 = .ok (.getfield 19, 3) := by decide +kernel
theorem dX5_meet_41 : decode cX5_meet 41 = .ok (.iload_n 2, 1) := by decide +kernel
theorem dX5_meet_42 : decode cX5_meet 42 = .ok (.iaload, 1) := by decide +kernel
theorem dX5_meet_43 : decode cX5_meet 43 = .ok (.invokevirtual 73, 3) := by decide +kernel
theorem dX5_meet_46 : decode cX5_meet 46 = .ok (.istore 4, 2) := by decide +kernel
theorem dX5_meet_48 : decode cX5_meet 48 = .ok (.iload_n 3, 1) := by decide +kernel
theorem dX5_meet_49 : decode cX5_meet 49 = .ok (.ifCond .ne 15, 3) := by decide +kernel
theorem dX5_meet_52 : decode cX5_meet 52 = .ok (.iload 4, 2) := by decide +kernel
theorem dX5_meet_54 : decode cX5_meet 54 = .ok (.ifCond .ne 10, 3) := by decide +kernel
theorem dX5_meet_57 : decode cX5_meet 57 = .ok (.aload_n 0, 1) := by decide +kernel
theorem dX5_meet_58 : decode cX5_meet 58 = .ok (.iload_n 1, 1) := by decide +kernel
theorem dX5_meet_59 : decode cX5_meet 59 = .ok (.iload_n 2, 1) := by decide +kernel
theorem dX5_meet_60 : decode cX5_meet 60 = .ok (.invokevirtual 77, 3) := by decide +kernel
theorem dX5_meet_63 : decode cX5_meet 63 = .ok (.ireturn, 1) := by decide +kernel
theorem dX5_meet_64 : decode cX5_meet 64 = .ok (.iload_n 3, 1) := by decide +kernel
theorem dX5_meet_65 : decode cX5_meet 65 = .ok (.iload 4, 2) := by decide +kernel
theorem dX5_meet_67 : decode cX5_meet 67 = .ok (.imul, 1) := by decide +kernel
theorem dX5_meet_68 : decode cX5_meet 68 = .ok (.ifCond .le 5, 3) := by decide +kernel
theorem dX5_meet_71 : decode cX5_meet 71 = .ok (.iconst 0, 1) := by decide +kernel
theorem dX5_meet_72 : decode cX5_meet 72 = .ok (.ireturn, 1) := by decide +kernel
theorem dX5_meet_73 : decode cX5_meet 73 = .ok (.aload_n 0, 1) := by decide +kernel
theorem dX5_meet_74 : decode cX5_meet 74 = .ok (.iload_n 2, 1) := by decide +kernel
theorem dX5_meet_75 : decode cX5_meet 75 = .ok (.aload_n 0, 1) := by decide +kernel
theorem dX5_meet_76 : decode cX5_meet 76 = .ok (.getfield 7, 3) := by decide +kernel
theorem dX5_meet_79 : decode cX5_meet 79 = .ok (.iload_n 1, 1) := by decide +kernel
theorem dX5_meet_80 : decode cX5_meet 80 = .ok (.iaload, 1) := by decide +kernel
theorem dX5_meet_81 : decode cX5_meet 81 = .ok (.aload_n 0, 1) := by decide +kernel
theorem dX5_meet_82 : decode cX5_meet 82 = .ok (.getfield 13, 3) := by decide +kernel
theorem dX5_meet_85 : decode cX5_meet 85 = .ok (.iload_n 1, 1) := by decide +kernel
theorem dX5_meet_86 : decode cX5_meet 86 = .ok (.iaload, 1) := by decide +kernel
theorem dX5_meet_87 : decode cX5_meet 87 = .ok (.invokevirtual 73, 3) := by decide +kernel
theorem dX5_meet_90 : decode cX5_meet 90 = .ok (.istore 5, 2) := by decide +kernel
theorem dX5_meet_92 : decode cX5_meet 92 = .ok (.aload_n 0, 1) := by decide +kernel
theorem dX5_meet_93 : decode cX5_meet 93 = .ok (.iload_n 2, 1) := by decide +kernel
theorem dX5_meet_94 : decode cX5_meet 94 = .ok (.aload_n 0, 1) := by decide +kernel
theorem dX5_meet_95 : decode cX5_meet 95 = .ok (.getfield 16, 3) := by decide +kernel
theorem dX5_meet_98 : decode cX5_meet 98 = .ok (.iload_n 1, 1) := by decide +kernel
theorem dX5_meet_99 : decode cX5_meet 99 = .ok (.iaload, 1) := by decide +kernel
theorem dX5_meet_100 : decode cX5_meet 100 = .ok (.aload_n 0, 1) := by decide +kernel
theorem dX5_meet_101 : decode cX5_meet 101 = .ok (.getfield 19, 3) := by decide +kernel
theorem dX5_meet_104 : decode cX5_meet 104 = .ok (.iload_n 1, 1) := by decide +kernel
theorem dX5_meet_105 : decode cX5_meet 105 = .ok (.iaload, 1) := by decide +kernel
theorem dX5_meet_106 : decode cX5_meet 106 = .ok (.invokevirtual 73, 3) := by decide +kernel
theorem dX5_meet_109 : decode cX5_meet 109 = .ok (.istore 6, 2) := by decide +kernel
theorem dX5_meet_111 : decode cX5_meet 111 = .ok (.iload 5, 2) := by decide +kernel
theorem dX5_meet_113 : decode cX5_meet 113 = .ok (.iload 6, 2) := by decide +kernel
theorem dX5_meet_115 : decode cX5_meet 115 = .ok (.imul, 1) := by decide +kernel
theorem dX5_meet_116 : decode cX5_meet 116 = .ok (.ifCond .le 5, 3) := by decide +kernel
theorem dX5_meet_119 : decode cX5_meet 119 = .ok (.iconst 0, 1) := by decide +kernel
theorem dX5_meet_120 : decode cX5_meet 120 = .ok (.ireturn, 1) := by decide +kernel
theorem dX5_meet_121 : decode cX5_meet 121 = .ok (.iload_n 3, 1) := by decide +kernel
theorem dX5_meet_122 : decode cX5_meet 122 = .ok (.iload 4, 2) := by decide +kernel
theorem dX5_meet_124 : decode cX5_meet 124 = .ok (.imul, 1) := by decide +kernel
theorem dX5_meet_125 : decode cX5_meet 125 = .ok (.ifCond .ge 13, 3) := by decide +kernel
theorem dX5_meet_128 : decode cX5_meet 128 = .ok (.iload 5, 2) := by decide +kernel
theorem dX5_meet_130 : decode cX5_meet 130 = .ok (.iload 6, 2) := by decide +kernel
theorem dX5_meet_132 : decode cX5_meet 132 = .ok (.imul, 1) := by decide +kernel
theorem dX5_meet_133 : decode cX5_meet 133 = .ok (.ifCond .ge 5, 3) := by decide +kernel
theorem dX5_meet_136 : decode cX5_meet 136 = .ok (.iconst 1, 1) := by decide +kernel
theorem dX5_meet_137 : decode cX5_meet 137 = .ok (.ireturn, 1) := by decide +kernel
theorem dX5_meet_138 : decode cX5_meet 138 = .ok (.iload_n 3, 1) := by decide +kernel
theorem dX5_meet_139 : decode cX5_meet 139 = .ok (.ifCond .eq 8, 3) := by decide +kernel
theorem dX5_meet_142 : decode cX5_meet 142 = .ok (.iload 4, 2) := by decide +kernel
theorem dX5_meet_144 : decode cX5_meet 144 = .ok (.ifCond .ne 18, 3) := by decide +kernel
theorem dX5_meet_147 : decode cX5_meet 147 = .ok (.aload_n 0, 1) := by decide +kernel
theorem dX5_meet_148 : decode cX5_meet 148 = .ok (.iload_n 2, 1) := by decide +kernel
theorem dX5_meet_149 : decode cX5_meet 149 = .ok (.iload_n 3, 1) := by decide +kernel
theorem dX5_meet_150 : decode cX5_meet 150 = .ok (.ifCond .ne 7, 3) := by decide +kernel
theorem dX5_meet_153 : decode cX5_meet 153 = .ok (.iconst 1, 1) := by decide +kernel
theorem dX5_meet_154 : decode cX5_meet 154 = .ok (.goto 4, 3) := by decide +kernel
theorem dX5_meet_157 : decode cX5_meet 157 = .ok (.iconst 0, 1) := by decide +kernel
theorem dX5_meet_158 : decode cX5_meet 158 = .ok (.invokevirtual 80, 3) := by decide +kernel
theorem dX5_meet_161 : decode cX5_meet 161 = .ok (.ireturn, 1) := by decide +kernel
theorem dX5_meet_162 : decode cX5_meet 162 = .ok (.aload_n 0, 1) := by decide +kernel
theorem dX5_meet_163 : decode cX5_meet 163 = .ok (.iload_n 1, 1) := by decide +kernel
theorem dX5_meet_164 : decode cX5_meet 164 = .ok (.iload 5, 2) := by decide +kernel
theorem dX5_meet_166 : decode cX5_meet 166 = .ok (.ifCond .ne 7, 3) := by decide +kernel
theorem dX5_meet_169 : decode cX5_meet 169 = .ok (.iconst 1, 1) := by decide +kernel
theorem dX5_meet_170 : decode cX5_meet 170 = .ok (.goto 4, 3) := by decide +kernel
theorem dX5_meet_173 : decode cX5_meet 173 = .ok (.iconst 0, 1) := by decide +kernel
theorem dX5_meet_174 : decode cX5_meet 174 = .ok (.invokevirtual 80, 3) := by decide +kernel
theorem dX5_meet_177 : decode cX5_meet 177 = .ok (.ireturn, 1) := by decide +kernel
theorem dX5_touchAtEnd_0 : decode cX5_touchAtEnd 0 = .ok (.aload_n 0, 1) := by decide +kernel
theorem dX5_touchAtEnd_1 : decode cX5_touchAtEnd 1 = .ok (.iload_n 2, 1) := by decide +kernel
theorem dX5_touchAtEnd_2 : decode cX5_touchAtEnd 2 = .ok (.ifCond .eq 12, 3) := by decide +kernel
theorem dX5_touchAtEnd_5 : decode cX5_touchAtEnd 5 = .ok (.aload_n 0, 1) := by decide +kernel
theorem dX5_touchAtEnd_6 : decode cX5_touchAtEnd 6 = .ok (.getfield 7, 3) := by decide +kernel
theorem dX5_touchAtEnd_9 : decode cX5_touchAtEnd 9 = .ok (.iload_n 1, 1) := by decide +kernel
theorem dX5_touchAtEnd_10 : decode cX5_touchAtEnd 10 = .ok (.iaload, 1) := by decide +kernel
theorem dX5_touchAtEnd_11 : decode cX5_touchAtEnd 11 = .ok (.goto 9, 3) := by decide +kernel
theorem dX5_touchAtEnd_14 : decode cX5_touchAtEnd 14 = .ok (.aload_n 0, 1) := by decide +kernel
theorem dX5_touchAtEnd_15 : decode cX5_touchAtEnd 15 = .ok (.getfield 16, 3) := by decide +kernel
theorem dX5_touchAtEnd_18 : decode cX5_touchAtEnd 18 = .ok (.iload_n 1, 1) := by decide +kernel
theorem dX5_touchAtEnd_19 : decode cX5_touchAtEnd 19 = .ok (.iaload, 1) := by decide +kernel
theorem dX5_touchAtEnd_20 : decode cX5_touchAtEnd 20 = .ok (.putfield 84, 3) := by decide +kernel
theorem dX5_touchAtEnd_23 : decode cX5_touchAtEnd 23 = .ok (.aload_n 0, 1) := by decide +kernel
theorem dX5_touchAtEnd_24 : decode cX5_touchAtEnd 24 = .ok (.iload_n 2, 1) := by decide +kernel
theorem dX5_touchAtEnd_25 : decode cX5_touchAtEnd 25 = .ok (.ifCond .eq 12, 3) := by decide +kernel
theorem dX5_touchAtEnd_28 : decode cX5_touchAtEnd 28 = .ok (.aload_n 0, 1) := by decide +kernel
theorem dX5_touchAtEnd_29 : decode cX5_touchAtEnd 29 = .ok (.getfield 13, 3) := by decide +kernel
theorem dX5_touchAtEnd_32 : decode cX5_touchAtEnd 32 = .ok (.iload_n 1, 1) := by decide +kernel
theorem dX5_touchAtEnd_33 : decode cX5_touchAtEnd 33 = .ok (.iaload, 1) := by decide +kernel
theorem dX5_touchAtEnd_34 : decode cX5_touchAtEnd 34 = .ok (.goto 9, 3) := by decide +kernel
theorem dX5_touchAtEnd_37 : decode cX5_touchAtEnd 37 = .ok (.aload_n 0, 1) := by decide +kernel
theorem dX5_touchAtEnd_38 : decode cX5_touchAtEnd 38 = .ok (.getfield 19, 3) := by decide +kernel
theorem dX5_touchAtEnd_41 : decode cX5_touchAtEnd 41 = .ok (.iload_n 1, 1) := by decide +kernel
theorem dX5_touchAtEnd_42 : decode cX5_touchAtEnd 42 = .ok (.iaload, 1) := by decide +kernel
theorem dX5_touchAtEnd_43 : decode cX5_touchAtEnd 43 = .ok (.putfield 87, 3) := by decide +kernel
theorem dX5_touchAtEnd_46 : decode cX5_touchAtEnd 46 = .ok (.iconst 2, 1) := by decide +kernel
theorem dX5_touchAtEnd_47 : decode cX5_touchAtEnd 47 = .ok (.ireturn, 1) := by decide +kernel
theorem dX5_meetOnOneLine_0 : decode cX5_meetOnOneLine 0 = .ok (.aload_n 0, 1) := by decide +kernel
theorem dX5_meetOnOneLine_1 : decode cX5_meetOnOneLine 1 = .ok (.getfield 7, 3) := by decide +kernel
theorem dX5_meetOnOneLine_4 : decode cX5_meetOnOneLine 4 = .ok (.iload_n 1, 1) := by decide +kernel
theorem dX5_meetOnOneLine_5 : decode cX5_meetOnOneLine 5 = .ok (.iaload, 1) := by decide +kernel
theorem dX5_meetOnOneLine_6 : decode cX5_meetOnOneLine 6 = .ok (.aload_n 0, 1) := by decide +kernel
theorem dX5_meetOnOneLine_7 : decode cX5_meetOnOneLine 7 = .ok (.getfield 16, 3) := by decide +kernel
theorem dX5_meetOnOneLine_10 : decode cX5_meetOnOneLine 10 = .ok (.iload_n 1, 1) := by decide +kernel
theorem dX5_meetOnOneLine_11 : decode cX5_meetOnOneLine 11 = .ok (.iaload, 1) := by decide +kernel
theorem dX5_meetOnOneLine_12 : decode cX5_meetOnOneLine 12 = .ok (.if_icmp .ne 7, 3) := by decide +kernel
theorem dX5_meetOnOneLine_15 : decode cX5_meetOnOneLine 15 = .ok (.iconst 1, 1) := by decide +kernel
theorem dX5_meetOnOneLine_16 : decode cX5_meetOnOneLine 16 = .ok (.goto 4, 3) := by decide +kernel
theorem dX5_meetOnOneLine_19 : decode cX5_meetOnOneLine 19 = .ok (.iconst 0, 1) := by decide +kernel
theorem dX5_meetOnOneLine_20 : decode cX5_meetOnOneLine 20 = .ok (.istore_n 3, 1) := by decide +kernel
theorem dX5_meetOnOneLine_21 : decode cX5_meetOnOneLine 21 = .ok (.iload_n 3, 1) := by decide +kernel
theorem dX5_meetOnOneLine_22 : decode cX5_meetOnOneLine 22 = .ok (.ifCond .eq 19, 3) := by decide +kernel
theorem dX5_meetOnOneLine_25 : decode cX5_meetOnOneLine 25 = .ok (.aload_n 0, 1) := by decide +kernel
theorem dX5_meetOnOneLine_26 : decode cX5_meetOnOneLine 26 = .ok (.iload_n 1, 1) := by decide +kernel
theorem dX5_meetOnOneLine_27 : decode cX5_meetOnOneLine 27 = .ok (.invokevirtual 53, 3) := by decide +kernel
theorem dX5_meetOnOneLine_30 : decode cX5_meetOnOneLine 30 = .ok (.aload_n 0, 1) := by decide +kernel
theorem dX5_meetOnOneLine_31 : decode cX5_meetOnOneLine 31 = .ok (.iload_n 2, 1) := by decide +kernel
theorem dX5_meetOnOneLine_32 : decode cX5_meetOnOneLine 32 = .ok (.invokevirtual 53, 3) := by decide +kernel
theorem dX5_meetOnOneLine_35 : decode cX5_meetOnOneLine 35 = .ok (.invokestatic 43, 3) := by decide +kernel
theorem dX5_meetOnOneLine_38 : decode cX5_meetOnOneLine 38 = .ok (.goto 16, 3) := by decide +kernel
theorem dX5_meetOnOneLine_41 : decode cX5_meetOnOneLine 41 = .ok (.aload_n 0, 1) := by decide +kernel
theorem dX5_meetOnOneLine_42 : decode cX5_meetOnOneLine 42 = .ok (.iload_n 1, 1) := by decide +kernel
theorem dX5_meetOnOneLine_43 : decode cX5_meetOnOneLine 43 = .ok (.invokevirtual 46, 3) := by decide +kernel
theorem dX5_meetOnOneLine_46 : decode cX5_meetOnOneLine 46 = .ok (.aload_n 0, 1) := by decide +kernel
theorem dX5_meetOnOneLine_47 : decode cX5_meetOnOneLine 47 = .ok (.iload_n 2, 1) := by decide +kernel
theorem dX5_meetOnOneLine_48 : decode cX5_meetOnOneLine 48 = .ok (.invokevirtual 46, 3) := by decide +kernel
theorem dX5_meetOnOneLine_51 : decode cX5_meetOnOneLine 51 = .ok (.invokestatic 43, 3) := by decide +kernel
theorem dX5_meetOnOneLine_54 : decode cX5_meetOnOneLine 54 = .ok (.istore 4, 2) := by decide +kernel
theorem dX5_meetOnOneLine_56 : decode cX5_meetOnOneLine 56 = .ok (.iload_n 3, 1) := by decide +kernel
theorem dX5_meetOnOneLine_57 : decode cX5_meetOnOneLine 57 = .ok (.ifCond .eq 19, 3) := by decide +kernel
theorem dX5_meetOnOneLine_60 : decode cX5_meetOnOneLine 60 = .ok (.aload_n 0, 1) := by decide +kernel
theorem dX5_meetOnOneLine_61 : decode cX5_meetOnOneLine 61 = .ok (.iload_n 1, 1) := by decide +kernel
theorem dX5_meetOnOneLine_62 : decode cX5_meetOnOneLine 62 = .ok (.invokevirtual 56, 3) := by decide +kernel
theorem dX5_meetOnOneLine_65 : decode cX5_meetOnOneLine 65 = .ok (.aload_n 0, 1) := by decide +kernel
theorem dX5_meetOnOneLine_66 : decode cX5_meetOnOneLine 66 = .ok (.iload_n 2, 1) := by decide +kernel
theorem dX5_meetOnOneLine_67 : decode cX5_meetOnOneLine 67 = .ok (.invokevirtual 56, 3) := by decide +kernel
theorem dX5_meetOnOneLine_70 : decode cX5_meetOnOneLine 70 = .ok (.invokestatic 37, 3) := by decide +kernel
theorem dX5_meetOnOneLine_73 : decode cX5_meetOnOneLine 73 = .ok (.goto 16, 3) := by decide +kernel
theorem dX5_meetOnOneLine_76 : decode cX5_meetOnOneLine 76 = .ok (.aload_n 0, 1) := by decide +kernel
theorem dX5_meetOnOneLine_77 : decode cX5_meetOnOneLine 77 = .ok (.iload_n 1, 1) := by decide +kernel
theorem dX5_meetOnOneLine_78 : decode cX5_meetOnOneLine 78 = .ok (.invokevirtual 50, 3) := by decide +kernel
theorem dX5_meetOnOneLine_81 : decode cX5_meetOnOneLine 81 = .ok (.aload_n 0, 1) := by decide +kernel
theorem dX5_meetOnOneLine_82 : decode cX5_meetOnOneLine 82 = .ok (.iload_n 2, 1) := by decide +kernel
theorem dX5_meetOnOneLine_83 : decode cX5_meetOnOneLine 83 = .ok (.invokevirtual 50, 3) := by decide +kernel
theorem dX5_meetOnOneLine_86 : decode cX5_meetOnOneLine 86 = .ok (.invokestatic 37, 3) := by decide +kernel
theorem dX5_meetOnOneLine_89 : decode cX5_meetOnOneLine 89 = .ok (.istore 5, 2) := by decide +kernel
theorem dX5_meetOnOneLine_91 : decode cX5_meetOnOneLine 91 = .ok (.iload 4, 2) := by decide +kernel
theorem dX5_meetOnOneLine_93 : decode cX5_meetOnOneLine 93 = .ok (.iload 5, 2) := by decide +kernel
theorem dX5_meetOnOneLine_95 : decode cX5_meetOnOneLine 95 = .ok (.if_icmp .le 5, 3) := by decide +kernel
theorem dX5_meetOnOneLine_98 : decode cX5_meetOnOneLine 98 = .ok (.iconst 0, 1) := by decide +kernel
theorem dX5_meetOnOneLine_99 : decode cX5_meetOnOneLine 99 = .ok (.ireturn, 1) := by decide +kernel
theorem dX5_meetOnOneLine_100 : decode cX5_meetOnOneLine 100 = .ok (.iload 4, 2) := by decide +kernel
theorem dX5_meetOnOneLine_102 : decode cX5_meetOnOneLine 102 = .ok (.iload 5, 2) := by decide +kernel
theorem dX5_meetOnOneLine_104 : decode cX5_meetOnOneLine 104 = .ok (.if_icmp .ge 7, 3) := by decide +kernel
theorem dX5_meetOnOneLine_107 : decode cX5_meetOnOneLine 107 = .ok (.iconst 3, 1) := by decide +kernel
theorem dX5_meetOnOneLine_108 : decode cX5_meetOnOneLine 108 = .ok (.goto 37, 3) := by decide +kernel
theorem dX5_meetOnOneLine_111 : decode cX5_meetOnOneLine 111 = .ok (.aload_n 0, 1) := by decide +kernel
theorem dX5_meetOnOneLine_112 : decode cX5_meetOnOneLine 112 = .ok (.iload_n 1, 1) := by decide +kernel
theorem dX5_meetOnOneLine_113 : decode cX5_meetOnOneLine 113 = .ok (.iload_n 3, 1) := by decide +kernel
theorem dX5_meetOnOneLine_114 : decode cX5_meetOnOneLine 114 = .ok (.ifCond .eq 12, 3) := by decide +kernel
theorem dX5_meetOnOneLine_117 : decode cX5_meetOnOneLine 117 = .ok (.aload_n 0, 1) := by decide +kernel
theorem dX5_meetOnOneLine_118 : decode cX5_meetOnOneLine 118 = .ok (.getfield 13, 3) := by decide +kernel
theorem dX5_meetOnOneLine_121 : decode cX5_meetOnOneLine 121 = .ok (.iload_n 1, 1) := by decide +kernel
theorem dX5_meetOnOneLine_122 : decode cX5_meetOnOneLine 122 = .ok (.iaload, 1) := by decide +kernel
theorem dX5_meetOnOneLine_123 : decode cX5_meetOnOneLine 123 = .ok (.goto 9, 3) := by decide +kernel
theorem dX5_meetOnOneLine_126 : decode cX5_meetOnOneLine 126 = .ok (.aload_n 0, 1) := by decide +kernel
theorem dX5_meetOnOneLine_127 : decode cX5_meetOnOneLine 127 = .ok (.getfield 7, 3) := by decide +kernel
theorem dX5_meetOnOneLine_130 : decode cX5_meetOnOneLine 130 = .ok (.iload_n 1, 1) := by decide +kernel
theorem dX5_meetOnOneLine_131 : decode cX5_meetOnOneLine 131 = .ok (.iaload, 1) := by decide +kernel
theorem dX5_meetOnOneLine_132 : decode cX5_meetOnOneLine 132 = .ok (.iload 4, 2) := by decide +kernel
theorem dX5_meetOnOneLine_134 : decode cX5_meetOnOneLine 134 = .ok (.if_icmp .ne 7, 3) := by decide +kernel
theorem dX5_meetOnOneLine_137 : decode cX5_meetOnOneLine 137 = .ok (.iconst 1, 1) := by decide +kernel
theorem dX5_meetOnOneLine_138 : decode cX5_meetOnOneLine 138 = .ok (.goto 4, 3) := by decide +kernel
theorem dX5_meetOnOneLine_141 : decode cX5_meetOnOneLine 141 = .ok (.iconst 0, 1) := by decide +kernel
theorem dX5_meetOnOneLine_142 : decode cX5_meetOnOneLine 142 = .ok (.invokevirtual 80, 3) := by decide +kernel
theorem dX5_meetOnOneLine_145 : decode cX5_meetOnOneLine 145 = .ok (.ireturn, 1) := by decide +kernel
theorem dX1_firstFault_0 : decode cX1_firstFault 0 = .ok (.aload_n 0, 1) := by decide +kernel
theorem dX1_firstFault_1 : decode cX1_firstFault 1 = .ok (.getfield 11, 3) := by decide +kernel
theorem dX1_firstFault_4 : decode cX1_firstFault 4 = .ok (.iconst (-1), 1) := by decide +kernel
theorem dX1_firstFault_5 : decode cX1_firstFault 5 = .ok (.invokestatic 50, 3) := by decide +kernel
theorem dX1_firstFault_8 : decode cX1_firstFault 8 = .ok (.iconst 0, 1) := by decide +kernel
theorem dX1_firstFault_9 : decode cX1_firstFault 9 = .ok (.istore_n 2, 1) := by decide +kernel
theorem dX1_firstFault_10 : decode cX1_firstFault 10 = .ok (.iconst 0, 1) := by decide +kernel
theorem dX1_firstFault_11 : decode cX1_firstFault 11 = .ok (.istore_n 3, 1) := by decide +kernel
theorem dX1_firstFault_12 : decode cX1_firstFault 12 = .ok (.iconst 0, 1) := by decide +kernel
theorem dX1_firstFault_13 : decode cX1_firstFault 13 = .ok (.istore 4, 2) := by decide +kernel
theorem dX1_firstFault_15 : decode cX1_firstFault 15 = .ok (.iconst 0, 1) := by decide +kernel
theorem dX1_firstFault_16 : decode cX1_firstFault 16 = .ok (.istore 5, 2) := by decide +kernel
theorem dX1_firstFault_18 : decode cX1_firstFault 18 = .ok (.iload 5, 2) := by decide +kernel
theorem dX1_firstFault_20 : decode cX1_firstFault 20 = .ok (.iconst 1, 1) := by decide +kernel
theorem dX1_firstFault_21 : decode cX1_firstFault 21 = .ok (.iadd, 1) := by decide +kernel
theorem dX1_firstFault_22 : decode cX1_firstFault 22 = .ok (.aload_n 1, 1) := by decide +kernel
theorem dX1_firstFault_23 : decode cX1_firstFault 23 = .ok (.getfield 56, 3) := by decide +kernel
theorem dX1_firstFault_26 : decode cX1_firstFault 26 = .ok (.if_icmp .ge 173, 3) := by decide +kernel
theorem dX1_firstFault_29 : decode cX1_firstFault 29 = .ok (.aload_n 1, 1) := by decide +kernel
theorem dX1_firstFault_30 : decode cX1_firstFault 30 = .ok (.getfield 60, 3) := by decide +kernel
theorem dX1_firstFault_33 : decode cX1_firstFault 33 = .ok (.iload 5, 2) := by decide +kernel
theorem dX1_firstFault_35 : decode cX1_firstFault 35 = .ok (.iaload, 1) := by decide +kernel
theorem dX1_firstFault_36 : decode cX1_firstFault 36 = .ok (.istore 6, 2) := by decide +kernel
theorem dX1_firstFault_38 : decode cX1_firstFault 38 = .ok (.iconst 0, 1) := by decide +kernel
theorem dX1_firstFault_39 : decode cX1_firstFault 39 = .ok (.istore 7, 2) := by decide +kernel
theorem dX1_firstFault_41 : decode cX1_firstFault 41 = .ok (.iload 6, 2) := by decide +kernel
theorem dX1_firstFault_43 : decode cX1_firstFault 43 = .ok (.iconst 2, 1) := by decide +kernel
theorem dX1_firstFault_44 : decode cX1_firstFault 44 = .ok (.if_icmp .ne 30, 3) := by decide +kernel
theorem dX1_firstFault_47 : decode cX1_firstFault 47 = .ok (.aload_n 1, 1) := by decide +kernel
theorem dX1_firstFault_48 : decode cX1_firstFault 48 = .ok (.iload_n 2, 1) := by decide +kernel
theorem dX1_firstFault_49 : decode cX1_firstFault 49 = .ok (.aload_n 1, 1) := by decide +kernel
theorem dX1_firstFault_50 : decode cX1_firstFault 50 = .ok (.getfield 60, 3) := by decide +kernel
theorem dX1_firstFault_53 : decode cX1_firstFault 53 = .ok (.iload 5, 2) := by decide +kernel
theorem dX1_firstFault_55 : decode cX1_firstFault 55 = .ok (.iconst 1, 1) := by decide +kernel
theorem dX1_firstFault_56 : decode cX1_firstFault 56 = .ok (.iadd, 1) := by decide +kernel
theorem dX1_firstFault_57 : decode cX1_firstFault 57 = .ok (.iaload, 1) := by decide +kernel
theorem dX1_firstFault_58 : decode cX1_firstFault 58 = .ok (.invokestatic 63, 3) := by decide +kernel
theorem dX1_firstFault_61 : decode cX1_firstFault 61 = .ok (.ifCond .eq 7, 3) := by decide +kernel
theorem dX1_firstFault_64 : decode cX1_firstFault 64 = .ok (.iconst 2, 1) := by decide +kernel
theorem dX1_firstFault_65 : decode cX1_firstFault 65 = .ok (.goto 4, 3) := by decide +kernel
theorem dX1_firstFault_68 : decode cX1_firstFault 68 = .ok (.iconst 0, 1) := by decide +kernel
theorem dX1_firstFault_69 : decode cX1_firstFault 69 = .ok (.istore 7, 2) := by decide +kernel
theorem dX1_firstFault_71 : decode cX1_firstFault 71 = .ok (.goto 90, 3) := by decide +kernel
theorem dX1_firstFault_74 : decode cX1_firstFault 74 = .ok (.iload 6, 2) := by decide +kernel
theorem dX1_firstFault_76 : decode cX1_firstFault 76 = .ok (.bipush 6, 2) := by decide +kernel
theorem dX1_firstFault_78 : decode cX1_firstFault 78 = .ok (.if_icmp .ne 49, 3) := by decide +kernel
theorem dX1_firstFault_81 : decode cX1_firstFault 81 = .ok (.aload_n 1, 1) := by decide +kernel
theorem dX1_firstFault_82 : decode cX1_firstFault 82 = .ok (.getfield 60, 3) := by decide +kernel
theorem dX1_firstFault_85 : decode cX1_firstFault 85 = .ok (.iload 5, 2) := by decide +kernel
theorem dX1_firstFault_87 : decode cX1_firstFault 87 = .ok (.iconst 1, 1) := by decide +kernel
theorem dX1_firstFault_88 : decode cX1_firstFault 88 = .ok (.iadd, 1) := by decide +kernel
theorem dX1_firstFault_89 : decode cX1_firstFault 89 = .ok (.iaload, 1) := by decide +kernel
theorem dX1_firstFault_90 : decode cX1_firstFault 90 = .ok (.istore 4, 2) := by decide +kernel
theorem dX1_firstFault_92 : decode cX1_firstFault 92 = .ok (.aload_n 0, 1) := by decide +kernel
theorem dX1_firstFault_93 : decode cX1_firstFault 93 = .ok (.aload_n 1, 1) := by decide +kernel
theorem dX1_firstFault_94 : decode cX1_firstFault 94 = .ok (.iload 5, 2) := by decide +kernel
theorem dX1_firstFault_96 : decode cX1_firstFault 96 = .ok (.iconst 2, 1) := by decide +kernel
theorem dX1_firstFault_97 : decode cX1_firstFault 97 = .ok (.iadd, 1) := by decide +kernel
theorem dX1_firstFault_98 : decode cX1_firstFault 98 = .ok (.iload_n 2, 1) := by decide +kernel
theorem dX1_firstFault_99 : decode cX1_firstFault 99 = .ok (.iload 4, 2) := by decide +kernel
theorem dX1_firstFault_101 : decode cX1_firstFault 101 = .ok (.invokevirtual 67, 3) := by decide +kernel
theorem dX1_firstFault_104 : decode cX1_firstFault 104 = .ok (.istore 7, 2) := by decide +kernel
theorem dX1_firstFault_106 : decode cX1_firstFault 106 = .ok (.iload 7, 2) := by decide +kernel
theorem dX1_firstFault_108 : decode cX1_firstFault 108 = .ok (.ifCond .eq 8, 3) := by decide +kernel
theorem dX1_firstFault_111 : decode cX1_firstFault 111 = .ok (.iload 7, 2) := by decide +kernel
theorem dX1_firstFault_113 : decode cX1_firstFault 113 = .ok (.goto 9, 3) := by decide +kernel
theorem dX1_firstFault_116 : decode cX1_firstFault 116 = .ok (.aload_n 0, 1) := by decide +kernel
theorem dX1_firstFault_117 : decode cX1_firstFault 117 = .ok (.iload 4, 2) := by decide +kernel
theorem dX1_firstFault_119 : decode cX1_firstFault 119 = .ok (.invokevirtual 71, 3) := by decide +kernel
theorem dX1_firstFault_122 : decode cX1_firstFault 122 = .ok (.istore 7, 2) := by decide +kernel
theorem dX1_firstFault_124 : decode cX1_firstFault 124 = .ok (.goto 37, 3) := by decide +kernel
theorem dX1_firstFault_127 : decode cX1_firstFault 127 = .ok (.iload 6, 2) := by decide +kernel
theorem dX1_firstFault_129 : decode cX1_firstFault 129 = .ok (.iconst 3, 1) := by decide +kernel
theorem dX1_firstFault_130 : decode cX1_firstFault 130 = .ok (.if_icmp .ne 14, 3) := by decide +kernel
theorem dX1_firstFault_133 : decode cX1_firstFault 133 = .ok (.iload 4, 2) := by decide +kernel
theorem dX1_firstFault_135 : decode cX1_firstFault 135 = .ok (.ifCond .le 9, 3) := by decide +kernel
theorem dX1_firstFault_138 : decode cX1_firstFault 138 = .ok (.iinc 4 (-1), 3) := by decide +kernel
theorem dX1_firstFault_141 : decode cX1_firstFault 141 = .ok (.goto 20, 3) := by decide +kernel
theorem dX1_firstFault_144 : decode cX1_firstFault 144 = .ok (.iload 6, 2) := by decide +kernel
theorem dX1_firstFault_146 : decode cX1_firstFault 146 = .ok (.iconst 3, 1) := by decide +kernel
theorem dX1_firstFault_147 : decode cX1_firstFault 147 = .ok (.if_icmp .ne 14, 3) := by decide +kernel
theorem dX1_firstFault_150 : decode cX1_firstFault 150 = .ok (.aload_n 0, 1) := by decide +kernel
theorem dX1_firstFault_151 : decode cX1_firstFault 151 = .ok (.aload_n 1, 1) := by decide +kernel
theorem dX1_firstFault_152 : decode cX1_firstFault 152 = .ok (.iload 5, 2) := by decide +kernel
theorem dX1_firstFault_154 : decode cX1_firstFault 154 = .ok (.iload_n 2, 1) := by decide +kernel
theorem dX1_firstFault_155 : decode cX1_firstFault 155 = .ok (.iconst 1, 1) := by decide +kernel
theorem dX1_firstFault_156 : decode cX1_firstFault 156 = .ok (.invokevirtual 67, 3) := by decide +kernel
theorem dX1_firstFault_159 : decode cX1_firstFault 159 = .ok (.istore 7, 2) := by decide +kernel
theorem dX1_firstFault_161 : decode cX1_firstFault 161 = .ok (.iload 7, 2) := by decide +kernel
theorem dX1_firstFault_163 : decode cX1_firstFault 163 = .ok (.ifCond .eq 13, 3) := by decide +kernel
theorem dX1_firstFault_166 : decode cX1_firstFault 166 = .ok (.aload_n 0, 1) := by decide +kernel
theorem dX1_firstFault_167 : decode cX1_firstFault 167 = .ok (.getfield 11, 3) := by decide +kernel
theorem dX1_firstFault_170 : decode cX1_firstFault 170 = .ok (.iconst 0, 1) := by decide +kernel
theorem dX1_firstFault_171 : decode cX1_firstFault 171 = .ok (.iload_n 3, 1) := by decide +kernel
theorem dX1_firstFault_172 : decode cX1_firstFault 172 = .ok (.iastore, 1) := by decide +kernel
theorem dX1_firstFault_173 : decode cX1_firstFault 173 = .ok (.iload 7, 2) := by decide +kernel
theorem dX1_firstFault_175 : decode cX1_firstFault 175 = .ok (.ireturn, 1) := by decide +kernel
theorem dX1_firstFault_176 : decode cX1_firstFault 176 = .ok (.iload_n 2, 1) := by decide +kernel
theorem dX1_firstFault_177 : decode cX1_firstFault 177 = .ok (.aload_n 1, 1) := by decide +kernel
theorem dX1_firstFault_178 : decode cX1_firstFault 178 = .ok (.iload 5, 2) := by decide +kernel
theorem dX1_firstFault_180 : decode cX1_firstFault 180 = .ok (.invokevirtual 75, 3) := by decide +kernel
theorem dX1_firstFault_183 : decode cX1_firstFault 183 = .ok (.iadd, 1) := by decide +kernel
theorem dX1_firstFault_184 : decode cX1_firstFault 184 = .ok (.istore_n 2, 1) := by decide +kernel
theorem dX1_firstFault_185 : decode cX1_firstFault 185 = .ok (.iinc 3 1, 3) := by decide +kernel
theorem dX1_firstFault_188 : decode cX1_firstFault 188 = .ok (.aload_n 1, 1) := by decide +kernel
theorem dX1_firstFault_189 : decode cX1_firstFault 189 = .ok (.iload 5, 2) := by decide +kernel
theorem dX1_firstFault_191 : decode cX1_firstFault 191 = .ok (.invokevirtual 78, 3) := by decide +kernel
theorem dX1_firstFault_194 : decode cX1_firstFault 194 = .ok (.istore 5, 2) := by decide +kernel
theorem dX1_firstFault_196 : decode cX1_firstFault 196 = .ok (.goto (-178), 3) := by decide +kernel
theorem dX1_firstFault_199 : decode cX1_firstFault 199 = .ok (.iconst 0, 1) := by decide +kernel
theorem dX1_firstFault_200 : decode cX1_firstFault 200 = .ok (.ireturn, 1) := by decide +kernel
theorem dX1_isOfOnePlace_0 : decode cX1_isOfOnePlace 0 = .ok (.iconst 1, 1) := by decide +kernel
theorem dX1_isOfOnePlace_1 : decode cX1_isOfOnePlace 1 = .ok (.istore_n 3, 1) := by decide +kernel
theorem dX1_isOfOnePlace_2 : decode cX1_isOfOnePlace 2 = .ok (.iload_n 3, 1) := by decide +kernel
theorem dX1_isOfOnePlace_3 : decode cX1_isOfOnePlace 3 = .ok (.iload_n 2, 1) := by decide +kernel
theorem dX1_isOfOnePlace_4 : decode cX1_isOfOnePlace 4 = .ok (.if_icmp .ge 22, 3) := by decide +kernel
theorem dX1_isOfOnePlace_7 : decode cX1_isOfOnePlace 7 = .ok (.aload_n 0, 1) := by decide +kernel
theorem dX1_isOfOnePlace_8 : decode cX1_isOfOnePlace 8 = .ok (.iload_n 1, 1) := by decide +kernel
theorem dX1_isOfOnePlace_9 : decode cX1_isOfOnePlace 9 = .ok (.iload_n 1, 1) := by decide +kernel
theorem dX1_isOfOnePlace_10 : decode cX1_isOfOnePlace 10 = .ok (.iload_n 3, 1) := by decide +kernel
theorem dX1_isOfOnePlace_11 : decode cX1_isOfOnePlace 11 = .ok (.iadd, 1) := by decide +kernel
theorem dX1_isOfOnePlace_12 : decode cX1_isOfOnePlace 12 = .ok (.invokevirtual 81, 3) := by decide +kernel
theorem dX1_isOfOnePlace_15 : decode cX1_isOfOnePlace 15 = .ok (.ifCond .ne 5, 3) := by decide +kernel
theorem dX1_isOfOnePlace_18 : decode cX1_isOfOnePlace 18 = .ok (.iconst 0, 1) := by decide +kernel
theorem dX1_isOfOnePlace_19 : decode cX1_isOfOnePlace 19 = .ok (.ireturn, 1) := by decide +kernel
theorem dX1_isOfOnePlace_20 : decode cX1_isOfOnePlace 20 = .ok (.iinc 3 1, 3) := by decide +kernel
theorem dX1_isOfOnePlace_23 : decode cX1_isOfOnePlace 23 = .ok (.goto (-21), 3) := by decide +kernel
theorem dX1_isOfOnePlace_26 : decode cX1_isOfOnePlace 26 = .ok (.iload_n 2, 1) := by decide +kernel
theorem dX1_isOfOnePlace_27 : decode cX1_isOfOnePlace 27 = .ok (.ifCond .le 7, 3) := by decide +kernel
theorem dX1_isOfOnePlace_30 : decode cX1_isOfOnePlace 30 = .ok (.iconst 1, 1) := by decide +kernel
theorem dX1_isOfOnePlace_31 : decode cX1_isOfOnePlace 31 = .ok (.goto 4, 3) := by decide +kernel
theorem dX1_isOfOnePlace_34 : decode cX1_isOfOnePlace 34 = .ok (.iconst 0, 1) := by decide +kernel
theorem dX1_isOfOnePlace_35 : decode cX1_isOfOnePlace 35 = .ok (.ireturn, 1) := by decide +kernel
theorem dX1_polygonsFault_0 : decode cX1_polygonsFault 0 = .ok (.aload_n 0, 1) := by decide +kernel
theorem dX1_polygonsFault_1 : decode cX1_polygonsFault 1 = .ok (.getfield 22, 3) := by decide +kernel
theorem dX1_polygonsFault_4 : decode cX1_polygonsFault 4 = .ok (.iconst 0, 1) := by decide +kernel
theorem dX1_polygonsFault_5 : decode cX1_polygonsFault 5 = .ok (.putfield 85, 3) := by decide +kernel
theorem dX1_polygonsFault_8 : decode cX1_polygonsFault 8 = .ok (.aload_n 0, 1) := by decide +kernel
theorem dX1_polygonsFault_9 : decode cX1_polygonsFault 9 = .ok (.iconst 0, 1) := by decide +kernel
theorem dX1_polygonsFault_10 : decode cX1_polygonsFault 10 = .ok (.putfield 88, 3) := by decide +kernel
theorem dX1_polygonsFault_13 : decode cX1_polygonsFault 13 = .ok (.iload_n 2, 1) := by decide +kernel
theorem dX1_polygonsFault_14 : decode cX1_polygonsFault 14 = .ok (.istore 5, 2) := by decide +kernel
theorem dX1_polygonsFault_16 : decode cX1_polygonsFault 16 = .ok (.iload_n 3, 1) := by decide +kernel
theorem dX1_polygonsFault_17 : decode cX1_polygonsFault 17 = .ok (.istore 6, 2) := by decide +kernel
theorem dX1_polygonsFault_19 : decode cX1_polygonsFault 19 = .ok (.iconst 0, 1) := by decide +kernel
theorem dX1_polygonsFault_20 : decode cX1_polygonsFault 20 = .ok (.istore 7, 2) := by decide +kernel
theorem dX1_polygonsFault_22 : decode cX1_polygonsFault 22 = .ok (.iload 7, 2) := by decide +kernel
theorem dX1_polygonsFault_24 : decode cX1_polygonsFault 24 = .ok (.iload 4, 2) := by decide +kernel
theorem dX1_polygonsFault_26 : decode cX1_polygonsFault 26 = .ok (.if_icmp .ge 122, 3) := by decide +kernel
theorem dX1_polygonsFault_29 : decode cX1_polygonsFault 29 = .ok (.iload 5, 2) := by decide +kernel
theorem dX1_polygonsFault_31 : decode cX1_polygonsFault 31 = .ok (.iconst 1, 1) := by decide +kernel
theorem dX1_polygonsFault_32 : decode cX1_polygonsFault 32 = .ok (.iadd, 1) := by decide +kernel
theorem dX1_polygonsFault_33 : decode cX1_polygonsFault 33 = .ok (.aload_n 1, 1) := by decide +kernel
theorem dX1_polygonsFault_34 : decode cX1_polygonsFault 34 = .ok (.getfield 56, 3) := by decide +kernel
theorem dX1_polygonsFault_37 : decode cX1_polygonsFault 37 = .ok (.if_icmp .ge 111, 3) := by decide +kernel
theorem dX1_polygonsFault_40 : decode cX1_polygonsFault 40 = .ok (.aload_n 0, 1) := by decide +kernel
theorem dX1_polygonsFault_41 : decode cX1_polygonsFault 41 = .ok (.aload_n 1, 1) := by decide +kernel
theorem dX1_polygonsFault_42 : decode cX1_polygonsFault 42 = .ok (.iload 5, 2) := by decide +kernel
theorem dX1_polygonsFault_44 : decode cX1_polygonsFault 44 = .ok (.iload 6, 2) := by decide +kernel
theorem dX1_polygonsFault_46 : decode cX1_polygonsFault 46 = .ok (.iload 7, 2) := by decide +kernel
theorem dX1_polygonsFault_48 : decode cX1_polygonsFault 48 = .ok (.invokevirtual 91, 3) := by decide +kernel
theorem dX1_polygonsFault_51 : decode cX1_polygonsFault 51 = .ok (.istore 8, 2) := by decide +kernel
theorem dX1_polygonsFault_53 : decode cX1_polygonsFault 53 = .ok (.iload 8, 2) := by decide +kernel
theorem dX1_polygonsFault_55 : decode cX1_polygonsFault 55 = .ok (.ifCond .ne 22, 3) := by decide +kernel
theorem dX1_polygonsFault_58 : decode cX1_polygonsFault 58 = .ok (.aload_n 0, 1) := by decide +kernel
theorem dX1_polygonsFault_59 : decode cX1_polygonsFault 59 = .ok (.aload_n 1, 1) := by decide +kernel
theorem dX1_polygonsFault_60 : decode cX1_polygonsFault 60 = .ok (.iload 5, 2) := by decide +kernel
theorem dX1_polygonsFault_62 : decode cX1_polygonsFault 62 = .ok (.iload 6, 2) := by decide +kernel
theorem dX1_polygonsFault_64 : decode cX1_polygonsFault 64 = .ok (.iload 7, 2) := by decide +kernel
theorem dX1_polygonsFault_66 : decode cX1_polygonsFault 66 = .ok (.invokevirtual 94, 3) := by decide +kernel
theorem dX1_polygonsFault_69 : decode cX1_polygonsFault 69 = .ok (.aload_n 0, 1) := by decide +kernel
theorem dX1_polygonsFault_70 : decode cX1_polygonsFault 70 = .ok (.iload 7, 2) := by decide +kernel
theorem dX1_polygonsFault_72 : decode cX1_polygonsFault 72 = .ok (.invokevirtual 98, 3) := by decide +kernel
theorem dX1_polygonsFault_75 : decode cX1_polygonsFault 75 = .ok (.istore 8, 2) := by decide +kernel
theorem dX1_polygonsFault_77 : decode cX1_polygonsFault 77 = .ok (.iload 8, 2) := by decide +kernel
theorem dX1_polygonsFault_79 : decode cX1_polygonsFault 79 = .ok (.ifCond .ne 11, 3) := by decide +kernel
theorem dX1_polygonsFault_82 : decode cX1_polygonsFault 82 = .ok (.aload_n 0, 1) := by decide +kernel
theorem dX1_polygonsFault_83 : decode cX1_polygonsFault 83 = .ok (.iload 7, 2) := by decide +kernel
theorem dX1_polygonsFault_85 : decode cX1_polygonsFault 85 = .ok (.invokevirtual 101, 3) := by decide +kernel
theorem dX1_polygonsFault_88 : decode cX1_polygonsFault 88 = .ok (.istore 8, 2) := by decide +kernel
theorem dX1_polygonsFault_90 : decode cX1_polygonsFault 90 = .ok (.iload 8, 2) := by decide +kernel
theorem dX1_polygonsFault_92 : decode cX1_polygonsFault 92 = .ok (.ifCond .ne 23, 3) := by decide +kernel
theorem dX1_polygonsFault_95 : decode cX1_polygonsFault 95 = .ok (.aload_n 0, 1) := by decide +kernel
theorem dX1_polygonsFault_96 : decode cX1_polygonsFault 96 = .ok (.iload 7, 2) := by decide +kernel
theorem dX1_polygonsFault_98 : decode cX1_polygonsFault 98 = .ok (.invokevirtual 104, 3) := by decide +kernel
theorem dX1_polygonsFault_101 : decode cX1_polygonsFault 101 = .ok (.ifCond .eq 14, 3) := by decide +kernel
theorem dX1_polygonsFault_104 : decode cX1_polygonsFault 104 = .ok (.aload_n 0, 1) := by decide +kernel
theorem dX1_polygonsFault_105 : decode cX1_polygonsFault 105 = .ok (.bipush 8, 2) := by decide +kernel
theorem dX1_polygonsFault_107 : decode cX1_polygonsFault 107 = .ok (.iload 7, 2) := by decide +kernel
theorem dX1_polygonsFault_109 : decode cX1_polygonsFault 109 = .ok (.iconst (-1), 1) := by decide +kernel
theorem dX1_polygonsFault_110 : decode cX1_polygonsFault 110 = .ok (.invokevirtual 108, 3) := by decide +kernel
theorem dX1_polygonsFault_113 : decode cX1_polygonsFault 113 = .ok (.istore 8, 2) := by decide +kernel
theorem dX1_polygonsFault_115 : decode cX1_polygonsFault 115 = .ok (.iload 8, 2) := by decide +kernel
theorem dX1_polygonsFault_117 : decode cX1_polygonsFault 117 = .ok (.ifCond .eq 6, 3) := by decide +kernel
theorem dX1_polygonsFault_120 : decode cX1_polygonsFault 120 = .ok (.iload 8, 2) := by decide +kernel
theorem dX1_polygonsFault_122 : decode cX1_polygonsFault 122 = .ok (.ireturn, 1) := by decide +kernel
theorem dX1_polygonsFault_123 : decode cX1_polygonsFault 123 = .ok (.iload 6, 2) := by decide +kernel
theorem dX1_polygonsFault_125 : decode cX1_polygonsFault 125 = .ok (.aload_n 1, 1) := by decide +kernel
theorem dX1_polygonsFault_126 : decode cX1_polygonsFault 126 = .ok (.iload 5, 2) := by decide +kernel
theorem dX1_polygonsFault_128 : decode cX1_polygonsFault 128 = .ok (.invokevirtual 75, 3) := by decide +kernel
theorem dX1_polygonsFault_131 : decode cX1_polygonsFault 131 = .ok (.iadd, 1) := by decide +kernel
theorem dX1_polygonsFault_132 : decode cX1_polygonsFault 132 = .ok (.istore 6, 2) := by decide +kernel
theorem dX1_polygonsFault_134 : decode cX1_polygonsFault 134 = .ok (.aload_n 1, 1) := by decide +kernel
theorem dX1_polygonsFault_135 : decode cX1_polygonsFault 135 = .ok (.iload 5, 2) := by decide +kernel
theorem dX1_polygonsFault_137 : decode cX1_polygonsFault 137 = .ok (.invokevirtual 78, 3) := by decide +kernel
theorem dX1_polygonsFault_140 : decode cX1_polygonsFault 140 = .ok (.istore 5, 2) := by decide +kernel
theorem dX1_polygonsFault_142 : decode cX1_polygonsFault 142 = .ok (.iinc 7 1, 3) := by decide +kernel
theorem dX1_polygonsFault_145 : decode cX1_polygonsFault 145 = .ok (.goto (-123), 3) := by decide +kernel
theorem dX1_polygonsFault_148 : decode cX1_polygonsFault 148 = .ok (.aload_n 0, 1) := by decide +kernel
theorem dX1_polygonsFault_149 : decode cX1_polygonsFault 149 = .ok (.iload 4, 2) := by decide +kernel
theorem dX1_polygonsFault_151 : decode cX1_polygonsFault 151 = .ok (.invokevirtual 112, 3) := by decide +kernel
theorem dX1_polygonsFault_154 : decode cX1_polygonsFault 154 = .ok (.ireturn, 1) := by decide +kernel
theorem dX1_tell_0 : decode cX1_tell 0 = .ok (.aload_n 0, 1) := by decide +kernel
theorem dX1_tell_1 : decode cX1_tell 1 = .ok (.getfield 11, 3) := by decide +kernel
theorem dX1_tell_4 : decode cX1_tell 4 = .ok (.iconst 1, 1) := by decide +kernel
theorem dX1_tell_5 : decode cX1_tell 5 = .ok (.iload_n 2, 1) := by decide +kernel
theorem dX1_tell_6 : decode cX1_tell 6 = .ok (.iastore, 1) := by decide +kernel
theorem dX1_tell_7 : decode cX1_tell 7 = .ok (.aload_n 0, 1) := by decide +kernel
theorem dX1_tell_8 : decode cX1_tell 8 = .ok (.getfield 11, 3) := by decide +kernel
theorem dX1_tell_11 : decode cX1_tell 11 = .ok (.iconst 2, 1) := by decide +kernel
theorem dX1_tell_12 : decode cX1_tell 12 = .ok (.iload_n 3, 1) := by decide +kernel
theorem dX1_tell_13 : decode cX1_tell 13 = .ok (.iastore, 1) := by decide +kernel
theorem dX1_tell_14 : decode cX1_tell 14 = .ok (.iload_n 1, 1) := by decide +kernel
theorem dX1_tell_15 : decode cX1_tell 15 = .ok (.ireturn, 1) := by decide +kernel
theorem dX1_tellPair_0 : decode cX1_tellPair 0 = .ok (.aload_n 0, 1) := by decide +kernel
theorem dX1_tellPair_1 : decode cX1_tellPair 1 = .ok (.getfield 22, 3) := by decide +kernel
theorem dX1_tellPair_4 : decode cX1_tellPair 4 = .ok (.getfield 115, 3) := by decide +kernel
theorem dX1_tellPair_7 : decode cX1_tellPair 7 = .ok (.iload_n 2, 1) := by decide +kernel
theorem dX1_tellPair_8 : decode cX1_tellPair 8 = .ok (.iaload, 1) := by decide +kernel
theorem dX1_tellPair_9 : decode cX1_tellPair 9 = .ok (.istore 4, 2) := by decide +kernel
theorem dX1_tellPair_11 : decode cX1_tellPair 11 = .ok (.aload_n 0, 1) := by decide +kernel
theorem dX1_tellPair_12 : decode cX1_tellPair 12 = .ok (.getfield 22, 3) := by decide +kernel
theorem dX1_tellPair_15 : decode cX1_tellPair 15 = .ok (.getfield 115, 3) := by decide +kernel
theorem dX1_tellPair_18 : decode cX1_tellPair 18 = .ok (.iload_n 3, 1) := by decide +kernel
theorem dX1_tellPair_19 : decode cX1_tellPair 19 = .ok (.iaload, 1) := by decide +kernel
theorem dX1_tellPair_20 : decode cX1_tellPair 20 = .ok (.istore 5, 2) := by decide +kernel
theorem dX1_tellPair_22 : decode cX1_tellPair 22 = .ok (.aload_n 0, 1) := by decide +kernel
theorem dX1_tellPair_23 : decode cX1_tellPair 23 = .ok (.getfield 11, 3) := by decide +kernel
theorem dX1_tellPair_26 : decode cX1_tellPair 26 = .ok (.iconst 1, 1) := by decide +kernel
theorem dX1_tellPair_27 : decode cX1_tellPair 27 = .ok (.aload_n 0, 1) := by decide +kernel
theorem dX1_tellPair_28 : decode cX1_tellPair 28 = .ok (.getfield 29, 3) := by decide +kernel
theorem dX1_tellPair_31 : decode cX1_tellPair 31 = .ok (.iload 4, 2) := by decide +kernel
theorem dX1_tellPair_33 : decode cX1_tellPair 33 = .ok (.iaload, 1) := by decide +kernel
theorem dX1_tellPair_34 : decode cX1_tellPair 34 = .ok (.iastore, 1) := by decide +kernel
theorem dX1_tellPair_35 : decode cX1_tellPair 35 = .ok (.aload_n 0, 1) := by decide +kernel
theorem dX1_tellPair_36 : decode cX1_tellPair 36 = .ok (.getfield 11, 3) := by decide +kernel
theorem dX1_tellPair_39 : decode cX1_tellPair 39 = .ok (.iconst 2, 1) := by decide +kernel
theorem dX1_tellPair_40 : decode cX1_tellPair 40 = .ok (.aload_n 0, 1) := by decide +kernel
theorem dX1_tellPair_41 : decode cX1_tellPair 41 = .ok (.getfield 32, 3) := by decide +kernel
theorem dX1_tellPair_44 : decode cX1_tellPair 44 = .ok (.iload 4, 2) := by decide +kernel
theorem dX1_tellPair_46 : decode cX1_tellPair 46 = .ok (.iaload, 1) := by decide +kernel
theorem dX1_tellPair_47 : decode cX1_tellPair 47 = .ok (.iastore, 1) := by decide +kernel
theorem dX1_tellPair_48 : decode cX1_tellPair 48 = .ok (.aload_n 0, 1) := by decide +kernel
theorem dX1_tellPair_49 : decode cX1_tellPair 49 = .ok (.getfield 11, 3) := by decide +kernel
theorem dX1_tellPair_52 : decode cX1_tellPair 52 = .ok (.iconst 3, 1) := by decide +kernel
theorem dX1_tellPair_53 : decode cX1_tellPair 53 = .ok (.aload_n 0, 1) := by decide +kernel
theorem dX1_tellPair_54 : decode cX1_tellPair 54 = .ok (.getfield 26, 3) := by decide +kernel
theorem dX1_tellPair_57 : decode cX1_tellPair 57 = .ok (.iload_n 2, 1) := by decide +kernel
theorem dX1_tellPair_58 : decode cX1_tellPair 58 = .ok (.iaload, 1) := by decide +kernel
theorem dX1_tellPair_59 : decode cX1_tellPair 59 = .ok (.iastore, 1) := by decide +kernel
theorem dX1_tellPair_60 : decode cX1_tellPair 60 = .ok (.aload_n 0, 1) := by decide +kernel
theorem dX1_tellPair_61 : decode cX1_tellPair 61 = .ok (.getfield 11, 3) := by decide +kernel
theorem dX1_tellPair_64 : decode cX1_tellPair 64 = .ok (.iconst 4, 1) := by decide +kernel
theorem dX1_tellPair_65 : decode cX1_tellPair 65 = .ok (.aload_n 0, 1) := by decide +kernel
theorem dX1_tellPair_66 : decode cX1_tellPair 66 = .ok (.getfield 29, 3) := by decide +kernel
theorem dX1_tellPair_69 : decode cX1_tellPair 69 = .ok (.iload 5, 2) := by decide +kernel
theorem dX1_tellPair_71 : decode cX1_tellPair 71 = .ok (.iaload, 1) := by decide +kernel
theorem dX1_tellPair_72 : decode cX1_tellPair 72 = .ok (.iastore, 1) := by decide +kernel
theorem dX1_tellPair_73 : decode cX1_tellPair 73 = .ok (.aload_n 0, 1) := by decide +kernel
theorem dX1_tellPair_74 : decode cX1_tellPair 74 = .ok (.getfield 11, 3) := by decide +kernel
theorem dX1_tellPair_77 : decode cX1_tellPair 77 = .ok (.iconst 5, 1) := by decide +kernel
theorem dX1_tellPair_78 : decode cX1_tellPair 78 = .ok (.aload_n 0, 1) := by decide +kernel
theorem dX1_tellPair_79 : decode cX1_tellPair 79 = .ok (.getfield 32, 3) := by decide +kernel
theorem dX1_tellPair_82 : decode cX1_tellPair 82 = .ok (.iload 5, 2) := by decide +kernel
theorem dX1_tellPair_84 : decode cX1_tellPair 84 = .ok (.iaload, 1) := by decide +kernel
theorem dX1_tellPair_85 : decode cX1_tellPair 85 = .ok (.iastore, 1) := by decide +kernel
theorem dX1_tellPair_86 : decode cX1_tellPair 86 = .ok (.aload_n 0, 1) := by decide +kernel
theorem dX1_tellPair_87 : decode cX1_tellPair 87 = .ok (.getfield 11, 3) := by decide +kernel
theorem dX1_tellPair_90 : decode cX1_tellPair 90 = .ok (.bipush 6, 2) := by decide +kernel
theorem dX1_tellPair_92 : decode cX1_tellPair 92 = .ok (.aload_n 0, 1) := by decide +kernel
theorem dX1_tellPair_93 : decode cX1_tellPair 93 = .ok (.getfield 26, 3) := by decide +kernel
theorem dX1_tellPair_96 : decode cX1_tellPair 96 = .ok (.iload_n 3, 1) := by decide +kernel
theorem dX1_tellPair_97 : decode cX1_tellPair 97 = .ok (.iaload, 1) := by decide +kernel
theorem dX1_tellPair_98 : decode cX1_tellPair 98 = .ok (.iastore, 1) := by decide +kernel
theorem dX1_tellPair_99 : decode cX1_tellPair 99 = .ok (.iload_n 1, 1) := by decide +kernel
theorem dX1_tellPair_100 : decode cX1_tellPair 100 = .ok (.ireturn, 1) := by decide +kernel
theorem dX1_ringsFault_0 : decode cX1_ringsFault 0 = .ok (.iload_n 3, 1) := by decide +kernel
theorem dX1_ringsFault_1 : decode cX1_ringsFault 1 = .ok (.istore 5, 2) := by decide +kernel
theorem dX1_ringsFault_3 : decode cX1_ringsFault 3 = .ok (.iconst 0, 1) := by decide +kernel
theorem dX1_ringsFault_4 : decode cX1_ringsFault 4 = .ok (.istore 6, 2) := by decide +kernel
theorem dX1_ringsFault_6 : decode cX1_ringsFault 6 = .ok (.iload 6, 2) := by decide +kernel
theorem dX1_ringsFault_8 : decode cX1_ringsFault 8 = .ok (.aload_n 1, 1) := by decide +kernel
theorem dX1_ringsFault_9 : decode cX1_ringsFault 9 = .ok (.iload_n 2, 1) := by decide +kernel
theorem dX1_ringsFault_10 : decode cX1_ringsFault 10 = .ok (.invokevirtual 118, 3) := by decide +kernel
theorem dX1_ringsFault_13 : decode cX1_ringsFault 13 = .ok (.if_icmp .ge 67, 3) := by decide +kernel
theorem dX1_ringsFault_16 : decode cX1_ringsFault 16 = .ok (.aload_n 1, 1) := by decide +kernel
theorem dX1_ringsFault_17 : decode cX1_ringsFault 17 = .ok (.iload_n 2, 1) := by decide +kernel
theorem dX1_ringsFault_18 : decode cX1_ringsFault 18 = .ok (.iload 6, 2) := by decide +kernel
theorem dX1_ringsFault_20 : decode cX1_ringsFault 20 = .ok (.invokevirtual 121, 3) := by decide +kernel
theorem dX1_ringsFault_23 : decode cX1_ringsFault 23 = .ok (.istore 7, 2) := by decide +kernel
theorem dX1_ringsFault_25 : decode cX1_ringsFault 25 = .ok (.aload_n 1, 1) := by decide +kernel
theorem dX1_ringsFault_26 : decode cX1_ringsFault 26 = .ok (.iload 5, 2) := by decide +kernel
theorem dX1_ringsFault_28 : decode cX1_ringsFault 28 = .ok (.iload 7, 2) := by decide +kernel
theorem dX1_ringsFault_30 : decode cX1_ringsFault 30 = .ok (.invokevirtual 125, 3) := by decide +kernel
theorem dX1_ringsFault_33 : decode cX1_ringsFault 33 = .ok (.ifCond .ne 13, 3) := by decide +kernel
theorem dX1_ringsFault_36 : decode cX1_ringsFault 36 = .ok (.aload_n 0, 1) := by decide +kernel
theorem dX1_ringsFault_37 : decode cX1_ringsFault 37 = .ok (.iconst 1, 1) := by decide +kernel
theorem dX1_ringsFault_38 : decode cX1_ringsFault 38 = .ok (.iload 4, 2) := by decide +kernel
theorem dX1_ringsFault_40 : decode cX1_ringsFault 40 = .ok (.iload 6, 2) := by decide +kernel
theorem dX1_ringsFault_42 : decode cX1_ringsFault 42 = .ok (.invokevirtual 108, 3) := by decide +kernel
theorem dX1_ringsFault_45 : decode cX1_ringsFault 45 = .ok (.ireturn, 1) := by decide +kernel
theorem dX1_ringsFault_46 : decode cX1_ringsFault 46 = .ok (.aload_n 1, 1) := by decide +kernel
theorem dX1_ringsFault_47 : decode cX1_ringsFault 47 = .ok (.iload 5, 2) := by decide +kernel
theorem dX1_ringsFault_49 : decode cX1_ringsFault 49 = .ok (.iload 7, 2) := by decide +kernel
theorem dX1_ringsFault_51 : decode cX1_ringsFault 51 = .ok (.invokestatic 128, 3) := by decide +kernel
theorem dX1_ringsFault_54 : decode cX1_ringsFault 54 = .ok (.ifCond .ne 13, 3) := by decide +kernel
theorem dX1_ringsFault_57 : decode cX1_ringsFault 57 = .ok (.aload_n 0, 1) := by decide +kernel
theorem dX1_ringsFault_58 : decode cX1_ringsFault 58 = .ok (.iconst 2, 1) := by decide +kernel
theorem dX1_ringsFault_59 : decode cX1_ringsFault 59 = .ok (.iload 4, 2) := by decide +kernel
theorem dX1_ringsFault_61 : decode cX1_ringsFault 61 = .ok (.iload 6, 2) := by decide +kernel
theorem dX1_ringsFault_63 : decode cX1_ringsFault 63 = .ok (.invokevirtual 108, 3) := by decide +kernel
theorem dX1_ringsFault_66 : decode cX1_ringsFault 66 = .ok (.ireturn, 1) := by decide +kernel
theorem dX1_ringsFault_67 : decode cX1_ringsFault 67 = .ok (.iload 5, 2) := by decide +kernel
theorem dX1_ringsFault_69 : decode cX1_ringsFault 69 = .ok (.iload 7, 2) := by decide +kernel
theorem dX1_ringsFault_71 : decode cX1_ringsFault 71 = .ok (.iadd, 1) := by decide +kernel
theorem dX1_ringsFault_72 : decode cX1_ringsFault 72 = .ok (.istore 5, 2) := by decide +kernel
theorem dX1_ringsFault_74 : decode cX1_ringsFault 74 = .ok (.iinc 6 1, 3) := by decide +kernel
theorem dX1_ringsFault_77 : decode cX1_ringsFault 77 = .ok (.goto (-71), 3) := by decide +kernel
theorem dX1_ringsFault_80 : decode cX1_ringsFault 80 = .ok (.iconst 0, 1) := by decide +kernel
theorem dX1_ringsFault_81 : decode cX1_ringsFault 81 = .ok (.ireturn, 1) := by decide +kernel
theorem dX1_hasThreePlaces_0 : decode cX1_hasThreePlaces 0 = .ok (.iload_n 1, 1) := by decide +kernel
theorem dX1_hasThreePlaces_1 : decode cX1_hasThreePlaces 1 = .ok (.istore_n 3, 1) := by decide +kernel
theorem dX1_hasThreePlaces_2 : decode cX1_hasThreePlaces 2 = .ok (.iload_n 1, 1) := by decide +kernel
theorem dX1_hasThreePlaces_3 : decode cX1_hasThreePlaces 3 = .ok (.iconst 1, 1) := by decide +kernel
theorem dX1_hasThreePlaces_4 : decode cX1_hasThreePlaces 4 = .ok (.iadd, 1) := by decide +kernel
theorem dX1_hasThreePlaces_5 : decode cX1_hasThreePlaces 5 = .ok (.istore 4, 2) := by decide +kernel
theorem dX1_hasThreePlaces_7 : decode cX1_hasThreePlaces 7 = .ok (.iload 4, 2) := by decide +kernel
theorem dX1_hasThreePlaces_9 : decode cX1_hasThreePlaces 9 = .ok (.iload_n 1, 1) := by decide +kernel
theorem dX1_hasThreePlaces_10 : decode cX1_hasThreePlaces 10 = .ok (.iload_n 2, 1) := by decide +kernel
theorem dX1_hasThreePlaces_11 : decode cX1_hasThreePlaces 11 = .ok (.iadd, 1) := by decide +kernel
theorem dX1_hasThreePlaces_12 : decode cX1_hasThreePlaces 12 = .ok (.if_icmp .ge 45, 3) := by decide +kernel
theorem dX1_hasThreePlaces_15 : decode cX1_hasThreePlaces 15 = .ok (.aload_n 0, 1) := by decide +kernel
theorem dX1_hasThreePlaces_16 : decode cX1_hasThreePlaces 16 = .ok (.iload_n 1, 1) := by decide +kernel
theorem dX1_hasThreePlaces_17 : decode cX1_hasThreePlaces 17 = .ok (.iload 4, 2) := by decide +kernel
theorem dX1_hasThreePlaces_19 : decode cX1_hasThreePlaces 19 = .ok (.invokevirtual 81, 3) := by decide +kernel
theorem dX1_hasThreePlaces_22 : decode cX1_hasThreePlaces 22 = .ok (.ifCond .eq 6, 3) := by decide +kernel
theorem dX1_hasThreePlaces_25 : decode cX1_hasThreePlaces 25 = .ok (.goto 26, 3) := by decide +kernel
theorem dX1_hasThreePlaces_28 : decode cX1_hasThreePlaces 28 = .ok (.iload_n 3, 1) := by decide +kernel
theorem dX1_hasThreePlaces_29 : decode cX1_hasThreePlaces 29 = .ok (.iload_n 1, 1) := by decide +kernel
theorem dX1_hasThreePlaces_30 : decode cX1_hasThreePlaces 30 = .ok (.if_icmp .ne 9, 3) := by decide +kernel
theorem dX1_hasThreePlaces_33 : decode cX1_hasThreePlaces 33 = .ok (.iload 4, 2) := by decide +kernel
theorem dX1_hasThreePlaces_35 : decode cX1_hasThreePlaces 35 = .ok (.istore_n 3, 1) := by decide +kernel
theorem dX1_hasThreePlaces_36 : decode cX1_hasThreePlaces 36 = .ok (.goto 15, 3) := by decide +kernel
theorem dX1_hasThreePlaces_39 : decode cX1_hasThreePlaces 39 = .ok (.aload_n 0, 1) := by decide +kernel
theorem dX1_hasThreePlaces_40 : decode cX1_hasThreePlaces 40 = .ok (.iload_n 3, 1) := by decide +kernel
theorem dX1_hasThreePlaces_41 : decode cX1_hasThreePlaces 41 = .ok (.iload 4, 2) := by decide +kernel
theorem dX1_hasThreePlaces_43 : decode cX1_hasThreePlaces 43 = .ok (.invokevirtual 81, 3) := by decide +kernel
theorem dX1_hasThreePlaces_46 : decode cX1_hasThreePlaces 46 = .ok (.ifCond .ne 5, 3) := by decide +kernel
theorem dX1_hasThreePlaces_49 : decode cX1_hasThreePlaces 49 = .ok (.iconst 1, 1) := by decide +kernel
theorem dX1_hasThreePlaces_50 : decode cX1_hasThreePlaces 50 = .ok (.ireturn, 1) := by decide +kernel
theorem dX1_hasThreePlaces_51 : decode cX1_hasThreePlaces 51 = .ok (.iinc 4 1, 3) := by decide +kernel
theorem dX1_hasThreePlaces_54 : decode cX1_hasThreePlaces 54 = .ok (.goto (-47), 3) := by decide +kernel
theorem dX1_hasThreePlaces_57 : decode cX1_hasThreePlaces 57 = .ok (.iconst 0, 1) := by decide +kernel
theorem dX1_hasThreePlaces_58 : decode cX1_hasThreePlaces 58 = .ok (.ireturn, 1) := by decide +kernel
theorem dX1_layOut_0 : decode cX1_layOut 0 = .ok (.iload_n 3, 1) := by decide +kernel
theorem dX1_layOut_1 : decode cX1_layOut 1 = .ok (.istore 5, 2) := by decide +kernel
theorem dX1_layOut_3 : decode cX1_layOut 3 = .ok (.aload_n 0, 1) := by decide +kernel
theorem dX1_layOut_4 : decode cX1_layOut 4 = .ok (.getfield 41, 3) := by decide +kernel
theorem dX1_layOut_7 : decode cX1_layOut 7 = .ok (.iload 4, 2) := by decide +kernel
theorem dX1_layOut_9 : decode cX1_layOut 9 = .ok (.aload_n 0, 1) := by decide +kernel
theorem dX1_layOut_10 : decode cX1_layOut 10 = .ok (.getfield 88, 3) := by decide +kernel
theorem dX1_layOut_13 : decode cX1_layOut 13 = .ok (.iastore, 1) := by decide +kernel
theorem dX1_layOut_14 : decode cX1_layOut 14 = .ok (.iconst 0, 1) := by decide +kernel
theorem dX1_layOut_15 : decode cX1_layOut 15 = .ok (.istore 6, 2) := by decide +kernel
theorem dX1_layOut_17 : decode cX1_layOut 17 = .ok (.iload 6, 2) := by decide +kernel
theorem dX1_layOut_19 : decode cX1_layOut 19 = .ok (.aload_n 1, 1) := by decide +kernel
theorem dX1_layOut_20 : decode cX1_layOut 20 = .ok (.iload_n 2, 1) := by decide +kernel
theorem dX1_layOut_21 : decode cX1_layOut 21 = .ok (.invokevirtual 118, 3) := by decide +kernel
theorem dX1_layOut_24 : decode cX1_layOut 24 = .ok (.if_icmp .ge 188, 3) := by decide +kernel
theorem dX1_layOut_27 : decode cX1_layOut 27 = .ok (.aload_n 0, 1) := by decide +kernel
theorem dX1_layOut_28 : decode cX1_layOut 28 = .ok (.getfield 88, 3) := by decide +kernel
theorem dX1_layOut_31 : decode cX1_layOut 31 = .ok (.sipush 2048, 3) := by decide +kernel
theorem dX1_layOut_34 : decode cX1_layOut 34 = .ok (.if_icmp .ge 178, 3) := by decide +kernel
theorem dX1_layOut_37 : decode cX1_layOut 37 = .ok (.aload_n 1, 1) := by decide +kernel
theorem dX1_layOut_38 : decode cX1_layOut 38 = .ok (.iload_n 2, 1) := by decide +kernel
theorem dX1_layOut_39 : decode cX1_layOut 39 = .ok (.iload 6, 2) := by decide +kernel
theorem dX1_layOut_41 : decode cX1_layOut 41 = .ok (.invokevirtual 121, 3) := by decide +kernel
theorem dX1_layOut_44 : decode cX1_layOut 44 = .ok (.istore 7, 2) := by decide +kernel
theorem dX1_layOut_46 : decode cX1_layOut 46 = .ok (.aload_n 0, 1) := by decide +kernel
theorem dX1_layOut_47 : decode cX1_layOut 47 = .ok (.getfield 29, 3) := by decide +kernel
theorem dX1_layOut_50 : decode cX1_layOut 50 = .ok (.aload_n 0, 1) := by decide +kernel
theorem dX1_layOut_51 : decode cX1_layOut 51 = .ok (.getfield 88, 3) := by decide +kernel
theorem dX1_layOut_54 : decode cX1_layOut 54 = .ok (.iload 4, 2) := by decide +kernel
theorem dX1_layOut_56 : decode cX1_layOut 56 = .ok (.iastore, 1) := by decide +kernel
theorem dX1_layOut_57 : decode cX1_layOut 57 = .ok (.aload_n 0, 1) := by decide +kernel
theorem dX1_layOut_58 : decode cX1_layOut 58 = .ok (.getfield 32, 3) := by decide +kernel
theorem dX1_layOut_61 : decode cX1_layOut 61 = .ok (.aload_n 0, 1) := by decide +kernel
theorem dX1_layOut_62 : decode cX1_layOut 62 = .ok (.getfield 88, 3) := by decide +kernel
theorem dX1_layOut_65 : decode cX1_layOut 65 = .ok (.iload 6, 2) := by decide +kernel
theorem dX1_layOut_67 : decode cX1_layOut 67 = .ok (.iastore, 1) := by decide +kernel
theorem dX1_layOut_68 : decode cX1_layOut 68 = .ok (.aload_n 0, 1) := by decide +kernel
theorem dX1_layOut_69 : decode cX1_layOut 69 = .ok (.getfield 35, 3) := by decide +kernel
theorem dX1_layOut_72 : decode cX1_layOut 72 = .ok (.aload_n 0, 1) := by decide +kernel
theorem dX1_layOut_73 : decode cX1_layOut 73 = .ok (.getfield 88, 3) := by decide +kernel
theorem dX1_layOut_76 : decode cX1_layOut 76 = .ok (.aload_n 0, 1) := by decide +kernel
theorem dX1_layOut_77 : decode cX1_layOut 77 = .ok (.getfield 22, 3) := by decide +kernel
theorem dX1_layOut_80 : decode cX1_layOut 80 = .ok (.getfield 85, 3) := by decide +kernel
theorem dX1_layOut_83 : decode cX1_layOut 83 = .ok (.iastore, 1) := by decide +kernel
theorem dX1_layOut_84 : decode cX1_layOut 84 = .ok (.iconst 0, 1) := by decide +kernel
theorem dX1_layOut_85 : decode cX1_layOut 85 = .ok (.istore 8, 2) := by decide +kernel
theorem dX1_layOut_87 : decode cX1_layOut 87 = .ok (.iload 8, 2) := by decide +kernel
theorem dX1_layOut_89 : decode cX1_layOut 89 = .ok (.iconst 1, 1) := by decide +kernel
theorem dX1_layOut_90 : decode cX1_layOut 90 = .ok (.iadd, 1) := by decide +kernel
theorem dX1_layOut_91 : decode cX1_layOut 91 = .ok (.iload 7, 2) := by decide +kernel
theorem dX1_layOut_93 : decode cX1_layOut 93 = .ok (.if_icmp .ge 80, 3) := by decide +kernel
theorem dX1_layOut_96 : decode cX1_layOut 96 = .ok (.aload_n 0, 1) := by decide +kernel
theorem dX1_layOut_97 : decode cX1_layOut 97 = .ok (.getfield 22, 3) := by decide +kernel
theorem dX1_layOut_100 : decode cX1_layOut 100 = .ok (.getfield 85, 3) := by decide +kernel
theorem dX1_layOut_103 : decode cX1_layOut 103 = .ok (.sipush 2048, 3) := by decide +kernel
theorem dX1_layOut_106 : decode cX1_layOut 106 = .ok (.if_icmp .ge 67, 3) := by decide +kernel
theorem dX1_layOut_109 : decode cX1_layOut 109 = .ok (.aload_n 1, 1) := by decide +kernel
theorem dX1_layOut_110 : decode cX1_layOut 110 = .ok (.iload 5, 2) := by decide +kernel
theorem dX1_layOut_112 : decode cX1_layOut 112 = .ok (.iload 8, 2) := by decide +kernel
theorem dX1_layOut_114 : decode cX1_layOut 114 = .ok (.iadd, 1) := by decide +kernel
theorem dX1_layOut_115 : decode cX1_layOut 115 = .ok (.iload 5, 2) := by decide +kernel
theorem dX1_layOut_117 : decode cX1_layOut 117 = .ok (.iload 8, 2) := by decide +kernel
theorem dX1_layOut_119 : decode cX1_layOut 119 = .ok (.iadd, 1) := by decide +kernel
theorem dX1_layOut_120 : decode cX1_layOut 120 = .ok (.iconst 1, 1) := by decide +kernel
theorem dX1_layOut_121 : decode cX1_layOut 121 = .ok (.iadd, 1) := by decide +kernel
theorem dX1_layOut_122 : decode cX1_layOut 122 = .ok (.invokevirtual 81, 3) := by decide +kernel
theorem dX1_layOut_125 : decode cX1_layOut 125 = .ok (.ifCond .ne 42, 3) := by decide +kernel
theorem dX1_layOut_128 : decode cX1_layOut 128 = .ok (.aload_n 0, 1) := by decide +kernel
theorem dX1_layOut_129 : decode cX1_layOut 129 = .ok (.getfield 26, 3) := by decide +kernel
theorem dX1_layOut_132 : decode cX1_layOut 132 = .ok (.aload_n 0, 1) := by decide +kernel
theorem dX1_layOut_133 : decode cX1_layOut 133 = .ok (.getfield 22, 3) := by decide +kernel
theorem dX1_layOut_136 : decode cX1_layOut 136 = .ok (.getfield 85, 3) := by decide +kernel
theorem dX1_layOut_139 : decode cX1_layOut 139 = .ok (.iload 8, 2) := by decide +kernel
theorem dX1_layOut_141 : decode cX1_layOut 141 = .ok (.iastore, 1) := by decide +kernel
theorem dX1_layOut_142 : decode cX1_layOut 142 = .ok (.aload_n 0, 1) := by decide +kernel
theorem dX1_layOut_143 : decode cX1_layOut 143 = .ok (.getfield 22, 3) := by decide +kernel
theorem dX1_layOut_146 : decode cX1_layOut 146 = .ok (.aload_n 1, 1) := by decide +kernel
theorem dX1_layOut_147 : decode cX1_layOut 147 = .ok (.iload 5, 2) := by decide +kernel
theorem dX1_layOut_149 : decode cX1_layOut 149 = .ok (.iload 8, 2) := by decide +kernel
theorem dX1_layOut_151 : decode cX1_layOut 151 = .ok (.iadd, 1) := by decide +kernel
theorem dX1_layOut_152 : decode cX1_layOut 152 = .ok (.iload 5, 2) := by decide +kernel
theorem dX1_layOut_154 : decode cX1_layOut 154 = .ok (.iload 8, 2) := by decide +kernel
theorem dX1_layOut_156 : decode cX1_layOut 156 = .ok (.iadd, 1) := by decide +kernel
theorem dX1_layOut_157 : decode cX1_layOut 157 = .ok (.iconst 1, 1) := by decide +kernel
theorem dX1_layOut_158 : decode cX1_layOut 158 = .ok (.iadd, 1) := by decide +kernel
theorem dX1_layOut_159 : decode cX1_layOut 159 = .ok (.aload_n 0, 1) := by decide +kernel
theorem dX1_layOut_160 : decode cX1_layOut 160 = .ok (.getfield 88, 3) := by decide +kernel
theorem dX1_layOut_163 : decode cX1_layOut 163 = .ok (.invokevirtual 131, 3) := by decide +kernel
theorem dX1_layOut_166 : decode cX1_layOut 166 = .ok (.pop, 1) := by decide +kernel
theorem dX1_layOut_167 : decode cX1_layOut 167 = .ok (.iinc 8 1, 3) := by decide +kernel
theorem dX1_layOut_170 : decode cX1_layOut 170 = .ok (.goto (-83), 3) := by decide +kernel
theorem dX1_layOut_173 : decode cX1_layOut 173 = .ok (.aload_n 0, 1) := by decide +kernel
theorem dX1_layOut_174 : decode cX1_layOut 174 = .ok (.getfield 38, 3) := by decide +kernel
theorem dX1_layOut_177 : decode cX1_layOut 177 = .ok (.aload_n 0, 1) := by decide +kernel
theorem dX1_layOut_178 : decode cX1_layOut 178 = .ok (.getfield 88, 3) := by decide +kernel
theorem dX1_layOut_181 : decode cX1_layOut 181 = .ok (.aload_n 0, 1) := by decide +kernel
theorem dX1_layOut_182 : decode cX1_layOut 182 = .ok (.getfield 22, 3) := by decide +kernel
theorem dX1_layOut_185 : decode cX1_layOut 185 = .ok (.getfield 85, 3) := by decide +kernel
theorem dX1_layOut_188 : decode cX1_layOut 188 = .ok (.iastore, 1) := by decide +kernel
theorem dX1_layOut_189 : decode cX1_layOut 189 = .ok (.aload_n 0, 1) := by decide +kernel
theorem dX1_layOut_190 : decode cX1_layOut 190 = .ok (.dup, 1) := by decide +kernel
theorem dX1_layOut_191 : decode cX1_layOut 191 = .ok (.getfield 88, 3) := by decide +kernel
theorem dX1_layOut_194 : decode cX1_layOut 194 = .ok (.iconst 1, 1) := by decide +kernel
theorem dX1_layOut_195 : decode cX1_layOut 195 = .ok (.iadd, 1) := by decide +kernel
theorem dX1_layOut_196 : decode cX1_layOut 196 = .ok (.putfield 88, 3) := by decide +kernel
theorem dX1_layOut_199 : decode cX1_layOut 199 = .ok (.iload 5, 2) := by decide +kernel
theorem dX1_layOut_201 : decode cX1_layOut 201 = .ok (.iload 7, 2) := by decide +kernel
theorem dX1_layOut_203 : decode cX1_layOut 203 = .ok (.iadd, 1) := by decide +kernel
theorem dX1_layOut_204 : decode cX1_layOut 204 = .ok (.istore 5, 2) := by decide +kernel
theorem dX1_layOut_206 : decode cX1_layOut 206 = .ok (.iinc 6 1, 3) := by decide +kernel
theorem dX1_layOut_209 : decode cX1_layOut 209 = .ok (.goto (-192), 3) := by decide +kernel
theorem dX1_layOut_212 : decode cX1_layOut 212 = .ok (.aload_n 0, 1) := by decide +kernel
theorem dX1_layOut_213 : decode cX1_layOut 213 = .ok (.getfield 44, 3) := by decide +kernel
theorem dX1_layOut_216 : decode cX1_layOut 216 = .ok (.iload 4, 2) := by decide +kernel
theorem dX1_layOut_218 : decode cX1_layOut 218 = .ok (.aload_n 0, 1) := by decide +kernel
theorem dX1_layOut_219 : decode cX1_layOut 219 = .ok (.getfield 88, 3) := by decide +kernel
theorem dX1_layOut_222 : decode cX1_layOut 222 = .ok (.iastore, 1) := by decide +kernel
theorem dX1_layOut_223 : decode cX1_layOut 223 = .ok (.return_, 1) := by decide +kernel
theorem dX1_isEmpty_0 : decode cX1_isEmpty 0 = .ok (.aload_n 0, 1) := by decide +kernel
theorem dX1_isEmpty_1 : decode cX1_isEmpty 1 = .ok (.getfield 41, 3) := by decide +kernel
theorem dX1_isEmpty_4 : decode cX1_isEmpty 4 = .ok (.iload_n 1, 1) := by decide +kernel
theorem dX1_isEmpty_5 : decode cX1_isEmpty 5 = .ok (.iaload, 1) := by decide +kernel
theorem dX1_isEmpty_6 : decode cX1_isEmpty 6 = .ok (.aload_n 0, 1) := by decide +kernel
theorem dX1_isEmpty_7 : decode cX1_isEmpty 7 = .ok (.getfield 44, 3) := by decide +kernel
theorem dX1_isEmpty_10 : decode cX1_isEmpty 10 = .ok (.iload_n 1, 1) := by decide +kernel
theorem dX1_isEmpty_11 : decode cX1_isEmpty 11 = .ok (.iaload, 1) := by decide +kernel
theorem dX1_isEmpty_12 : decode cX1_isEmpty 12 = .ok (.if_icmp .lt 7, 3) := by decide +kernel
theorem dX1_isEmpty_15 : decode cX1_isEmpty 15 = .ok (.iconst 1, 1) := by decide +kernel
theorem dX1_isEmpty_16 : decode cX1_isEmpty 16 = .ok (.goto 4, 3) := by decide +kernel
theorem dX1_isEmpty_19 : decode cX1_isEmpty 19 = .ok (.iconst 0, 1) := by decide +kernel
theorem dX1_isEmpty_20 : decode cX1_isEmpty 20 = .ok (.ireturn, 1) := by decide +kernel
theorem dX1_pairsFault_0 : decode cX1_pairsFault 0 = .ok (.aload_n 0, 1) := by decide +kernel
theorem dX1_pairsFault_1 : decode cX1_pairsFault 1 = .ok (.iload_n 1, 1) := by decide +kernel
theorem dX1_pairsFault_2 : decode cX1_pairsFault 2 = .ok (.invokevirtual 135, 3) := by decide +kernel
theorem dX1_pairsFault_5 : decode cX1_pairsFault 5 = .ok (.ifCond .eq 5, 3) := by decide +kernel
theorem dX1_pairsFault_8 : decode cX1_pairsFault 8 = .ok (.iconst 0, 1) := by decide +kernel
theorem dX1_pairsFault_9 : decode cX1_pairsFault 9 = .ok (.ireturn, 1) := by decide +kernel
theorem dX1_pairsFault_10 : decode cX1_pairsFault 10 = .ok (.aload_n 0, 1) := by decide +kernel
theorem dX1_pairsFault_11 : decode cX1_pairsFault 11 = .ok (.getfield 38, 3) := by decide +kernel
theorem dX1_pairsFault_14 : decode cX1_pairsFault 14 = .ok (.aload_n 0, 1) := by decide +kernel
theorem dX1_pairsFault_15 : decode cX1_pairsFault 15 = .ok (.getfield 44, 3) := by decide +kernel
theorem dX1_pairsFault_18 : decode cX1_pairsFault 18 = .ok (.iload_n 1, 1) := by decide +kernel
theorem dX1_pairsFault_19 : decode cX1_pairsFault 19 = .ok (.iaload, 1) := by decide +kernel
theorem dX1_pairsFault_20 : decode cX1_pairsFault 20 = .ok (.iconst 1, 1) := by decide +kernel
theorem dX1_pairsFault_21 : decode cX1_pairsFault 21 = .ok (.isub, 1) := by decide +kernel
theorem dX1_pairsFault_22 : decode cX1_pairsFault 22 = .ok (.iaload, 1) := by decide +kernel
theorem dX1_pairsFault_23 : decode cX1_pairsFault 23 = .ok (.istore_n 2, 1) := by decide +kernel
theorem dX1_pairsFault_24 : decode cX1_pairsFault 24 = .ok (.aload_n 0, 1) := by decide +kernel
theorem dX1_pairsFault_25 : decode cX1_pairsFault 25 = .ok (.getfield 35, 3) := by decide +kernel
theorem dX1_pairsFault_28 : decode cX1_pairsFault 28 = .ok (.aload_n 0, 1) := by decide +kernel
theorem dX1_pairsFault_29 : decode cX1_pairsFault 29 = .ok (.getfield 41, 3) := by decide +kernel
theorem dX1_pairsFault_32 : decode cX1_pairsFault 32 = .ok (.iload_n 1, 1) := by decide +kernel
theorem dX1_pairsFault_33 : decode cX1_pairsFault 33 = .ok (.iaload, 1) := by decide +kernel
theorem dX1_pairsFault_34 : decode cX1_pairsFault 34 = .ok (.iaload, 1) := by decide +kernel
theorem dX1_pairsFault_35 : decode cX1_pairsFault 35 = .ok (.istore_n 3, 1) := by decide +kernel
theorem dX1_pairsFault_36 : decode cX1_pairsFault 36 = .ok (.iload_n 3, 1) := by decide +kernel
theorem dX1_pairsFault_37 : decode cX1_pairsFault 37 = .ok (.iload_n 2, 1) := by decide +kernel
theorem dX1_pairsFault_38 : decode cX1_pairsFault 38 = .ok (.if_icmp .ge 67, 3) := by decide +kernel
theorem dX1_pairsFault_41 : decode cX1_pairsFault 41 = .ok (.iload_n 3, 1) := by decide +kernel
theorem dX1_pairsFault_42 : decode cX1_pairsFault 42 = .ok (.iconst 1, 1) := by decide +kernel
theorem dX1_pairsFault_43 : decode cX1_pairsFault 43 = .ok (.iadd, 1) := by decide +kernel
theorem dX1_pairsFault_44 : decode cX1_pairsFault 44 = .ok (.istore 4, 2) := by decide +kernel
theorem dX1_pairsFault_46 : decode cX1_pairsFault 46 = .ok (.iload 4, 2) := by decide +kernel
theorem dX1_pairsFault_48 : decode cX1_pairsFault 48 = .ok (.iload_n 2, 1) := by decide +kernel
theorem dX1_pairsFault_49 : decode cX1_pairsFault 49 = .ok (.if_icmp .ge 50, 3) := by decide +kernel
theorem dX1_pairsFault_52 : decode cX1_pairsFault 52 = .ok (.aload_n 0, 1) := by decide +kernel
theorem dX1_pairsFault_53 : decode cX1_pairsFault 53 = .ok (.getfield 22, 3) := by decide +kernel
theorem dX1_pairsFault_56 : decode cX1_pairsFault 56 = .ok (.iload_n 3, 1) := by decide +kernel
theorem dX1_pairsFault_57 : decode cX1_pairsFault 57 = .ok (.iload 4, 2) := by decide +kernel
theorem dX1_pairsFault_59 : decode cX1_pairsFault 59 = .ok (.invokevirtual 138, 3) := by decide +kernel
theorem dX1_pairsFault_62 : decode cX1_pairsFault 62 = .ok (.ifCond .eq 7, 3) := by decide +kernel
theorem dX1_pairsFault_65 : decode cX1_pairsFault 65 = .ok (.iconst 0, 1) := by decide +kernel
theorem dX1_pairsFault_66 : decode cX1_pairsFault 66 = .ok (.goto 10, 3) := by decide +kernel
theorem dX1_pairsFault_69 : decode cX1_pairsFault 69 = .ok (.aload_n 0, 1) := by decide +kernel
theorem dX1_pairsFault_70 : decode cX1_pairsFault 70 = .ok (.iload_n 3, 1) := by decide +kernel
theorem dX1_pairsFault_71 : decode cX1_pairsFault 71 = .ok (.iload 4, 2) := by decide +kernel
theorem dX1_pairsFault_73 : decode cX1_pairsFault 73 = .ok (.invokevirtual 141, 3) := by decide +kernel
theorem dX1_pairsFault_76 : decode cX1_pairsFault 76 = .ok (.istore 5, 2) := by decide +kernel
theorem dX1_pairsFault_78 : decode cX1_pairsFault 78 = .ok (.iload 5, 2) := by decide +kernel
theorem dX1_pairsFault_80 : decode cX1_pairsFault 80 = .ok (.ifCond .eq 13, 3) := by decide +kernel
theorem dX1_pairsFault_83 : decode cX1_pairsFault 83 = .ok (.aload_n 0, 1) := by decide +kernel
theorem dX1_pairsFault_84 : decode cX1_pairsFault 84 = .ok (.iload 5, 2) := by decide +kernel
theorem dX1_pairsFault_86 : decode cX1_pairsFault 86 = .ok (.iload_n 3, 1) := by decide +kernel
theorem dX1_pairsFault_87 : decode cX1_pairsFault 87 = .ok (.iload 4, 2) := by decide +kernel
theorem dX1_pairsFault_89 : decode cX1_pairsFault 89 = .ok (.invokevirtual 144, 3) := by decide +kernel
theorem dX1_pairsFault_92 : decode cX1_pairsFault 92 = .ok (.ireturn, 1) := by decide +kernel
theorem dX1_pairsFault_93 : decode cX1_pairsFault 93 = .ok (.iinc 4 1, 3) := by decide +kernel
theorem dX1_pairsFault_96 : decode cX1_pairsFault 96 = .ok (.goto (-50), 3) := by decide +kernel
theorem dX1_pairsFault_99 : decode cX1_pairsFault 99 = .ok (.iinc 3 1, 3) := by decide +kernel
theorem dX1_pairsFault_102 : decode cX1_pairsFault 102 = .ok (.goto (-66), 3) := by decide +kernel
theorem dX1_pairsFault_105 : decode cX1_pairsFault 105 = .ok (.iconst 0, 1) := by decide +kernel
theorem dX1_pairsFault_106 : decode cX1_pairsFault 106 = .ok (.ireturn, 1) := by decide +kernel
theorem dX1_pairFault_0 : decode cX1_pairFault 0 = .ok (.aload_n 0, 1) := by decide +kernel
theorem dX1_pairFault_1 : decode cX1_pairFault 1 = .ok (.getfield 22, 3) := by decide +kernel
theorem dX1_pairFault_4 : decode cX1_pairFault 4 = .ok (.iload_n 1, 1) := by decide +kernel
theorem dX1_pairFault_5 : decode cX1_pairFault 5 = .ok (.iload_n 2, 1) := by decide +kernel
theorem dX1_pairFault_6 : decode cX1_pairFault 6 = .ok (.invokevirtual 147, 3) := by decide +kernel
theorem dX1_pairFault_9 : decode cX1_pairFault 9 = .ok (.istore_n 3, 1) := by decide +kernel
theorem dX1_pairFault_10 : decode cX1_pairFault 10 = .ok (.iload_n 3, 1) := by decide +kernel
theorem dX1_pairFault_11 : decode cX1_pairFault 11 = .ok (.ifCond .ne 5, 3) := by decide +kernel
theorem dX1_pairFault_14 : decode cX1_pairFault 14 = .ok (.iconst 0, 1) := by decide +kernel
theorem dX1_pairFault_15 : decode cX1_pairFault 15 = .ok (.ireturn, 1) := by decide +kernel
theorem dX1_pairFault_16 : decode cX1_pairFault 16 = .ok (.iload_n 3, 1) := by decide +kernel
theorem dX1_pairFault_17 : decode cX1_pairFault 17 = .ok (.iconst 3, 1) := by decide +kernel
theorem dX1_pairFault_18 : decode cX1_pairFault 18 = .ok (.if_icmp .ne 5, 3) := by decide +kernel
theorem dX1_pairFault_21 : decode cX1_pairFault 21 = .ok (.iconst 3, 1) := by decide +kernel
theorem dX1_pairFault_22 : decode cX1_pairFault 22 = .ok (.ireturn, 1) := by decide +kernel
theorem dX1_pairFault_23 : decode cX1_pairFault 23 = .ok (.iload_n 3, 1) := by decide +kernel
theorem dX1_pairFault_24 : decode cX1_pairFault 24 = .ok (.iconst 1, 1) := by decide +kernel
theorem dX1_pairFault_25 : decode cX1_pairFault 25 = .ok (.if_icmp .ne 5, 3) := by decide +kernel
theorem dX1_pairFault_28 : decode cX1_pairFault 28 = .ok (.iconst 4, 1) := by decide +kernel
theorem dX1_pairFault_29 : decode cX1_pairFault 29 = .ok (.ireturn, 1) := by decide +kernel
theorem dX1_pairFault_30 : decode cX1_pairFault 30 = .ok (.aload_n 0, 1) := by decide +kernel
theorem dX1_pairFault_31 : decode cX1_pairFault 31 = .ok (.getfield 22, 3) := by decide +kernel
theorem dX1_pairFault_34 : decode cX1_pairFault 34 = .ok (.getfield 115, 3) := by decide +kernel
theorem dX1_pairFault_37 : decode cX1_pairFault 37 = .ok (.iload_n 1, 1) := by decide +kernel
theorem dX1_pairFault_38 : decode cX1_pairFault 38 = .ok (.iaload, 1) := by decide +kernel
theorem dX1_pairFault_39 : decode cX1_pairFault 39 = .ok (.aload_n 0, 1) := by decide +kernel
theorem dX1_pairFault_40 : decode cX1_pairFault 40 = .ok (.getfield 22, 3) := by decide +kernel
theorem dX1_pairFault_43 : decode cX1_pairFault 43 = .ok (.getfield 115, 3) := by decide +kernel
theorem dX1_pairFault_46 : decode cX1_pairFault 46 = .ok (.iload_n 2, 1) := by decide +kernel
theorem dX1_pairFault_47 : decode cX1_pairFault 47 = .ok (.iaload, 1) := by decide +kernel
theorem dX1_pairFault_48 : decode cX1_pairFault 48 = .ok (.if_icmp .eq 18, 3) := by decide +kernel
theorem dX1_pairFault_51 : decode cX1_pairFault 51 = .ok (.aload_n 0, 1) := by decide +kernel
theorem dX1_pairFault_52 : decode cX1_pairFault 52 = .ok (.iload_n 1, 1) := by decide +kernel
theorem dX1_pairFault_53 : decode cX1_pairFault 53 = .ok (.iload_n 2, 1) := by decide +kernel
theorem dX1_pairFault_54 : decode cX1_pairFault 54 = .ok (.invokevirtual 150, 3) := by decide +kernel
theorem dX1_pairFault_57 : decode cX1_pairFault 57 = .ok (.ifCond .eq 7, 3) := by decide +kernel
theorem dX1_pairFault_60 : decode cX1_pairFault 60 = .ok (.iconst 4, 1) := by decide +kernel
theorem dX1_pairFault_61 : decode cX1_pairFault 61 = .ok (.goto 4, 3) := by decide +kernel
theorem dX1_pairFault_64 : decode cX1_pairFault 64 = .ok (.iconst 0, 1) := by decide +kernel
theorem dX1_pairFault_65 : decode cX1_pairFault 65 = .ok (.ireturn, 1) := by decide +kernel
theorem dX1_pairFault_66 : decode cX1_pairFault 66 = .ok (.aload_n 0, 1) := by decide +kernel
theorem dX1_pairFault_67 : decode cX1_pairFault 67 = .ok (.iload_n 1, 1) := by decide +kernel
theorem dX1_pairFault_68 : decode cX1_pairFault 68 = .ok (.iload_n 2, 1) := by decide +kernel
theorem dX1_pairFault_69 : decode cX1_pairFault 69 = .ok (.invokevirtual 153, 3) := by decide +kernel
theorem dX1_pairFault_72 : decode cX1_pairFault 72 = .ok (.ifCond .ne 12, 3) := by decide +kernel
theorem dX1_pairFault_75 : decode cX1_pairFault 75 = .ok (.aload_n 0, 1) := by decide +kernel
theorem dX1_pairFault_76 : decode cX1_pairFault 76 = .ok (.iload_n 2, 1) := by decide +kernel
theorem dX1_pairFault_77 : decode cX1_pairFault 77 = .ok (.iload_n 1, 1) := by decide +kernel
theorem dX1_pairFault_78 : decode cX1_pairFault 78 = .ok (.invokevirtual 153, 3) := by decide +kernel
theorem dX1_pairFault_81 : decode cX1_pairFault 81 = .ok (.ifCond .eq 7, 3) := by decide +kernel
theorem dX1_pairFault_84 : decode cX1_pairFault 84 = .ok (.iconst 0, 1) := by decide +kernel
theorem dX1_pairFault_85 : decode cX1_pairFault 85 = .ok (.goto 4, 3) := by decide +kernel
theorem dX1_pairFault_88 : decode cX1_pairFault 88 = .ok (.iconst 5, 1) := by decide +kernel
theorem dX1_pairFault_89 : decode cX1_pairFault 89 = .ok (.ireturn, 1) := by decide +kernel
theorem dX1_leadsOnTo_0 : decode cX1_leadsOnTo 0 = .ok (.aload_n 0, 1) := by decide +kernel
theorem dX1_leadsOnTo_1 : decode cX1_leadsOnTo 1 = .ok (.iload_n 1, 1) := by decide +kernel
theorem dX1_leadsOnTo_2 : decode cX1_leadsOnTo 2 = .ok (.invokevirtual 156, 3) := by decide +kernel
theorem dX1_leadsOnTo_5 : decode cX1_leadsOnTo 5 = .ok (.iload_n 2, 1) := by decide +kernel
theorem dX1_leadsOnTo_6 : decode cX1_leadsOnTo 6 = .ok (.if_icmp .ne 57, 3) := by decide +kernel
theorem dX1_leadsOnTo_9 : decode cX1_leadsOnTo 9 = .ok (.aload_n 0, 1) := by decide +kernel
theorem dX1_leadsOnTo_10 : decode cX1_leadsOnTo 10 = .ok (.getfield 22, 3) := by decide +kernel
theorem dX1_leadsOnTo_13 : decode cX1_leadsOnTo 13 = .ok (.iload_n 1, 1) := by decide +kernel
theorem dX1_leadsOnTo_14 : decode cX1_leadsOnTo 14 = .ok (.aload_n 0, 1) := by decide +kernel
theorem dX1_leadsOnTo_15 : decode cX1_leadsOnTo 15 = .ok (.getfield 22, 3) := by decide +kernel
theorem dX1_leadsOnTo_18 : decode cX1_leadsOnTo 18 = .ok (.getfield 159, 3) := by decide +kernel
theorem dX1_leadsOnTo_21 : decode cX1_leadsOnTo 21 = .ok (.aload_n 0, 1) := by decide +kernel
theorem dX1_leadsOnTo_22 : decode cX1_leadsOnTo 22 = .ok (.getfield 22, 3) := by decide +kernel
theorem dX1_leadsOnTo_25 : decode cX1_leadsOnTo 25 = .ok (.getfield 162, 3) := by decide +kernel
theorem dX1_leadsOnTo_28 : decode cX1_leadsOnTo 28 = .ok (.invokevirtual 165, 3) := by decide +kernel
theorem dX1_leadsOnTo_31 : decode cX1_leadsOnTo 31 = .ok (.ifCond .eq 32, 3) := by decide +kernel
theorem dX1_leadsOnTo_34 : decode cX1_leadsOnTo 34 = .ok (.aload_n 0, 1) := by decide +kernel
theorem dX1_leadsOnTo_35 : decode cX1_leadsOnTo 35 = .ok (.getfield 22, 3) := by decide +kernel
theorem dX1_leadsOnTo_38 : decode cX1_leadsOnTo 38 = .ok (.iload_n 2, 1) := by decide +kernel
theorem dX1_leadsOnTo_39 : decode cX1_leadsOnTo 39 = .ok (.aload_n 0, 1) := by decide +kernel
theorem dX1_leadsOnTo_40 : decode cX1_leadsOnTo 40 = .ok (.getfield 22, 3) := by decide +kernel
theorem dX1_leadsOnTo_43 : decode cX1_leadsOnTo 43 = .ok (.getfield 159, 3) := by decide +kernel
theorem dX1_leadsOnTo_46 : decode cX1_leadsOnTo 46 = .ok (.aload_n 0, 1) := by decide +kernel
theorem dX1_leadsOnTo_47 : decode cX1_leadsOnTo 47 = .ok (.getfield 22, 3) := by decide +kernel
theorem dX1_leadsOnTo_50 : decode cX1_leadsOnTo 50 = .ok (.getfield 162, 3) := by decide +kernel
theorem dX1_leadsOnTo_53 : decode cX1_leadsOnTo 53 = .ok (.invokevirtual 169, 3) := by decide +kernel
theorem dX1_leadsOnTo_56 : decode cX1_leadsOnTo 56 = .ok (.ifCond .eq 7, 3) := by decide +kernel
theorem dX1_leadsOnTo_59 : decode cX1_leadsOnTo 59 = .ok (.iconst 1, 1) := by decide +kernel
theorem dX1_leadsOnTo_60 : decode cX1_leadsOnTo 60 = .ok (.goto 4, 3) := by decide +kernel
theorem dX1_leadsOnTo_63 : decode cX1_leadsOnTo 63 = .ok (.iconst 0, 1) := by decide +kernel
theorem dX1_leadsOnTo_64 : decode cX1_leadsOnTo 64 = .ok (.ireturn, 1) := by decide +kernel
theorem dX1_nextOf_0 : decode cX1_nextOf 0 = .ok (.aload_n 0, 1) := by decide +kernel
theorem dX1_nextOf_1 : decode cX1_nextOf 1 = .ok (.getfield 22, 3) := by decide +kernel
theorem dX1_nextOf_4 : decode cX1_nextOf 4 = .ok (.getfield 115, 3) := by decide +kernel
theorem dX1_nextOf_7 : decode cX1_nextOf 7 = .ok (.iload_n 1, 1) := by decide +kernel
theorem dX1_nextOf_8 : decode cX1_nextOf 8 = .ok (.iaload, 1) := by decide +kernel
theorem dX1_nextOf_9 : decode cX1_nextOf 9 = .ok (.istore_n 2, 1) := by decide +kernel
theorem dX1_nextOf_10 : decode cX1_nextOf 10 = .ok (.iload_n 1, 1) := by decide +kernel
theorem dX1_nextOf_11 : decode cX1_nextOf 11 = .ok (.iconst 1, 1) := by decide +kernel
theorem dX1_nextOf_12 : decode cX1_nextOf 12 = .ok (.iadd, 1) := by decide +kernel
theorem dX1_nextOf_13 : decode cX1_nextOf 13 = .ok (.aload_n 0, 1) := by decide +kernel
theorem dX1_nextOf_14 : decode cX1_nextOf 14 = .ok (.getfield 38, 3) := by decide +kernel
theorem dX1_nextOf_17 : decode cX1_nextOf 17 = .ok (.iload_n 2, 1) := by decide +kernel
theorem dX1_nextOf_18 : decode cX1_nextOf 18 = .ok (.iaload, 1) := by decide +kernel
theorem dX1_nextOf_19 : decode cX1_nextOf 19 = .ok (.if_icmp .ge 9, 3) := by decide +kernel
theorem dX1_nextOf_22 : decode cX1_nextOf 22 = .ok (.iload_n 1, 1) := by decide +kernel
theorem dX1_nextOf_23 : decode cX1_nextOf 23 = .ok (.iconst 1, 1) := by decide +kernel
theorem dX1_nextOf_24 : decode cX1_nextOf 24 = .ok (.iadd, 1) := by decide +kernel
theorem dX1_nextOf_25 : decode cX1_nextOf 25 = .ok (.goto 9, 3) := by decide +kernel
theorem dX1_nextOf_28 : decode cX1_nextOf 28 = .ok (.aload_n 0, 1) := by decide +kernel
theorem dX1_nextOf_29 : decode cX1_nextOf 29 = .ok (.getfield 35, 3) := by decide +kernel
theorem dX1_nextOf_32 : decode cX1_nextOf 32 = .ok (.iload_n 2, 1) := by decide +kernel
theorem dX1_nextOf_33 : decode cX1_nextOf 33 = .ok (.iaload, 1) := by decide +kernel
theorem dX1_nextOf_34 : decode cX1_nextOf 34 = .ok (.ireturn, 1) := by decide +kernel
theorem dX1_ringsCrossBehind_0 : decode cX1_ringsCrossBehind 0 = .ok (.aload_n 0, 1) := by decide +kernel
theorem dX1_ringsCrossBehind_1 : decode cX1_ringsCrossBehind 1 = .ok (.getfield 22, 3) := by decide +kernel
theorem dX1_ringsCrossBehind_4 : decode cX1_ringsCrossBehind 4 = .ok (.getfield 159, 3) := by decide +kernel
theorem dX1_ringsCrossBehind_7 : decode cX1_ringsCrossBehind 7 = .ok (.istore_n 3, 1) := by decide +kernel
theorem dX1_ringsCrossBehind_8 : decode cX1_ringsCrossBehind 8 = .ok (.aload_n 0, 1) := by decide +kernel
theorem dX1_ringsCrossBehind_9 : decode cX1_ringsCrossBehind 9 = .ok (.getfield 22, 3) := by decide +kernel
theorem dX1_ringsCrossBehind_12 : decode cX1_ringsCrossBehind 12 = .ok (.getfield 162, 3) := by decide +kernel
theorem dX1_ringsCrossBehind_15 : decode cX1_ringsCrossBehind 15 = .ok (.istore 4, 2) := by decide +kernel
theorem dX1_ringsCrossBehind_17 : decode cX1_ringsCrossBehind 17 = .ok (.aload_n 0, 1) := by decide +kernel
theorem dX1_ringsCrossBehind_18 : decode cX1_ringsCrossBehind 18 = .ok (.getfield 22, 3) := by decide +kernel
theorem dX1_ringsCrossBehind_21 : decode cX1_ringsCrossBehind 21 = .ok (.iload_n 1, 1) := by decide +kernel
theorem dX1_ringsCrossBehind_22 : decode cX1_ringsCrossBehind 22 = .ok (.iload_n 3, 1) := by decide +kernel
theorem dX1_ringsCrossBehind_23 : decode cX1_ringsCrossBehind 23 = .ok (.iload 4, 2) := by decide +kernel
theorem dX1_ringsCrossBehind_25 : decode cX1_ringsCrossBehind 25 = .ok (.invokevirtual 169, 3) := by decide +kernel
theorem dX1_ringsCrossBehind_28 : decode cX1_ringsCrossBehind 28 = .ok (.ifCond .ne 17, 3) := by decide +kernel
theorem dX1_ringsCrossBehind_31 : decode cX1_ringsCrossBehind 31 = .ok (.aload_n 0, 1) := by decide +kernel
theorem dX1_ringsCrossBehind_32 : decode cX1_ringsCrossBehind 32 = .ok (.getfield 22, 3) := by decide +kernel
theorem dX1_ringsCrossBehind_35 : decode cX1_ringsCrossBehind 35 = .ok (.iload_n 2, 1) := by decide +kernel
theorem dX1_ringsCrossBehind_36 : decode cX1_ringsCrossBehind 36 = .ok (.iload_n 3, 1) := by decide +kernel
theorem dX1_ringsCrossBehind_37 : decode cX1_ringsCrossBehind 37 = .ok (.iload 4, 2) := by decide +kernel
theorem dX1_ringsCrossBehind_39 : decode cX1_ringsCrossBehind 39 = .ok (.invokevirtual 169, 3) := by decide +kernel
theorem dX1_ringsCrossBehind_42 : decode cX1_ringsCrossBehind 42 = .ok (.ifCond .eq 5, 3) := by decide +kernel
theorem dX1_ringsCrossBehind_45 : decode cX1_ringsCrossBehind 45 = .ok (.iconst 0, 1) := by decide +kernel
theorem dX1_ringsCrossBehind_46 : decode cX1_ringsCrossBehind 46 = .ok (.ireturn, 1) := by decide +kernel
theorem dX1_ringsCrossBehind_47 : decode cX1_ringsCrossBehind 47 = .ok (.aload_n 0, 1) := by decide +kernel
theorem dX1_ringsCrossBehind_48 : decode cX1_ringsCrossBehind 48 = .ok (.getfield 22, 3) := by decide +kernel
theorem dX1_ringsCrossBehind_51 : decode cX1_ringsCrossBehind 51 = .ok (.iload_n 1, 1) := by decide +kernel
theorem dX1_ringsCrossBehind_52 : decode cX1_ringsCrossBehind 52 = .ok (.iload_n 3, 1) := by decide +kernel
theorem dX1_ringsCrossBehind_53 : decode cX1_ringsCrossBehind 53 = .ok (.iload 4, 2) := by decide +kernel
theorem dX1_ringsCrossBehind_55 : decode cX1_ringsCrossBehind 55 = .ok (.invokevirtual 165, 3) := by decide +kernel
theorem dX1_ringsCrossBehind_58 : decode cX1_ringsCrossBehind 58 = .ok (.ifCond .eq 11, 3) := by decide +kernel
theorem dX1_ringsCrossBehind_61 : decode cX1_ringsCrossBehind 61 = .ok (.aload_n 0, 1) := by decide +kernel
theorem dX1_ringsCrossBehind_62 : decode cX1_ringsCrossBehind 62 = .ok (.iload_n 1, 1) := by decide +kernel
theorem dX1_ringsCrossBehind_63 : decode cX1_ringsCrossBehind 63 = .ok (.invokevirtual 156, 3) := by decide +kernel
theorem dX1_ringsCrossBehind_66 : decode cX1_ringsCrossBehind 66 = .ok (.goto 4, 3) := by decide +kernel
theorem dX1_ringsCrossBehind_69 : decode cX1_ringsCrossBehind 69 = .ok (.iload_n 1, 1) := by decide +kernel
theorem dX1_ringsCrossBehind_70 : decode cX1_ringsCrossBehind 70 = .ok (.istore 5, 2) := by decide +kernel
theorem dX1_ringsCrossBehind_72 : decode cX1_ringsCrossBehind 72 = .ok (.aload_n 0, 1) := by decide +kernel
theorem dX1_ringsCrossBehind_73 : decode cX1_ringsCrossBehind 73 = .ok (.getfield 22, 3) := by decide +kernel
theorem dX1_ringsCrossBehind_76 : decode cX1_ringsCrossBehind 76 = .ok (.iload_n 2, 1) := by decide +kernel
theorem dX1_ringsCrossBehind_77 : decode cX1_ringsCrossBehind 77 = .ok (.iload_n 3, 1) := by decide +kernel
theorem dX1_ringsCrossBehind_78 : decode cX1_ringsCrossBehind 78 = .ok (.iload 4, 2) := by decide +kernel
theorem dX1_ringsCrossBehind_80 : decode cX1_ringsCrossBehind 80 = .ok (.invokevirtual 165, 3) := by decide +kernel
theorem dX1_ringsCrossBehind_83 : decode cX1_ringsCrossBehind 83 = .ok (.ifCond .eq 11, 3) := by decide +kernel
theorem dX1_ringsCrossBehind_86 : decode cX1_ringsCrossBehind 86 = .ok (.aload_n 0, 1) := by decide +kernel
theorem dX1_ringsCrossBehind_87 : decode cX1_ringsCrossBehind 87 = .ok (.iload_n 2, 1) := by decide +kernel
theorem dX1_ringsCrossBehind_88 : decode cX1_ringsCrossBehind 88 = .ok (.invokevirtual 156, 3) := by decide +kernel
theorem dX1_ringsCrossBehind_91 : decode cX1_ringsCrossBehind 91 = .ok (.goto 4, 3) := by decide +kernel
theorem dX1_ringsCrossBehind_94 : decode cX1_ringsCrossBehind 94 = .ok (.iload_n 2, 1) := by decide +kernel
theorem dX1_ringsCrossBehind_95 : decode cX1_ringsCrossBehind 95 = .ok (.istore 6, 2) := by decide +kernel
theorem dX1_ringsCrossBehind_97 : decode cX1_ringsCrossBehind 97 = .ok (.aload_n 0, 1) := by decide +kernel
theorem dX1_ringsCrossBehind_98 : decode cX1_ringsCrossBehind 98 = .ok (.iload_n 1, 1) := by decide +kernel
theorem dX1_ringsCrossBehind_99 : decode cX1_ringsCrossBehind 99 = .ok (.iload 5, 2) := by decide +kernel
theorem dX1_ringsCrossBehind_101 : decode cX1_ringsCrossBehind 101 = .ok (.aload_n 0, 1) := by decide +kernel
theorem dX1_ringsCrossBehind_102 : decode cX1_ringsCrossBehind 102 = .ok (.getfield 22, 3) := by decide +kernel
theorem dX1_ringsCrossBehind_105 : decode cX1_ringsCrossBehind 105 = .ok (.getfield 172, 3) := by decide +kernel
theorem dX1_ringsCrossBehind_108 : decode cX1_ringsCrossBehind 108 = .ok (.iload 6, 2) := by decide +kernel
theorem dX1_ringsCrossBehind_110 : decode cX1_ringsCrossBehind 110 = .ok (.iaload, 1) := by decide +kernel
theorem dX1_ringsCrossBehind_111 : decode cX1_ringsCrossBehind 111 = .ok (.aload_n 0, 1) := by decide +kernel
theorem dX1_ringsCrossBehind_112 : decode cX1_ringsCrossBehind 112 = .ok (.getfield 22, 3) := by decide +kernel
theorem dX1_ringsCrossBehind_115 : decode cX1_ringsCrossBehind 115 = .ok (.getfield 175, 3) := by decide +kernel
theorem dX1_ringsCrossBehind_118 : decode cX1_ringsCrossBehind 118 = .ok (.iload 6, 2) := by decide +kernel
theorem dX1_ringsCrossBehind_120 : decode cX1_ringsCrossBehind 120 = .ok (.iaload, 1) := by decide +kernel
theorem dX1_ringsCrossBehind_121 : decode cX1_ringsCrossBehind 121 = .ok (.invokevirtual 178, 3) := by decide +kernel
theorem dX1_ringsCrossBehind_124 : decode cX1_ringsCrossBehind 124 = .ok (.aload_n 0, 1) := by decide +kernel
theorem dX1_ringsCrossBehind_125 : decode cX1_ringsCrossBehind 125 = .ok (.iload_n 1, 1) := by decide +kernel
theorem dX1_ringsCrossBehind_126 : decode cX1_ringsCrossBehind 126 = .ok (.iload 5, 2) := by decide +kernel
theorem dX1_ringsCrossBehind_128 : decode cX1_ringsCrossBehind 128 = .ok (.aload_n 0, 1) := by decide +kernel
theorem dX1_ringsCrossBehind_129 : decode cX1_ringsCrossBehind 129 = .ok (.getfield 22, 3) := by decide +kernel
theorem dX1_ringsCrossBehind_132 : decode cX1_ringsCrossBehind 132 = .ok (.getfield 182, 3) := by decide +kernel
theorem dX1_ringsCrossBehind_135 : decode cX1_ringsCrossBehind 135 = .ok (.iload_n 2, 1) := by decide +kernel
theorem dX1_ringsCrossBehind_136 : decode cX1_ringsCrossBehind 136 = .ok (.iaload, 1) := by decide +kernel
theorem dX1_ringsCrossBehind_137 : decode cX1_ringsCrossBehind 137 = .ok (.aload_n 0, 1) := by decide +kernel
theorem dX1_ringsCrossBehind_138 : decode cX1_ringsCrossBehind 138 = .ok (.getfield 22, 3) := by decide +kernel
theorem dX1_ringsCrossBehind_141 : decode cX1_ringsCrossBehind 141 = .ok (.getfield 185, 3) := by decide +kernel
theorem dX1_ringsCrossBehind_144 : decode cX1_ringsCrossBehind 144 = .ok (.iload_n 2, 1) := by decide +kernel
theorem dX1_ringsCrossBehind_145 : decode cX1_ringsCrossBehind 145 = .ok (.iaload, 1) := by decide +kernel
theorem dX1_ringsCrossBehind_146 : decode cX1_ringsCrossBehind 146 = .ok (.invokevirtual 178, 3) := by decide +kernel
theorem dX1_ringsCrossBehind_149 : decode cX1_ringsCrossBehind 149 = .ok (.if_icmp .eq 7, 3) := by decide +kernel
theorem dX1_ringsCrossBehind_152 : decode cX1_ringsCrossBehind 152 = .ok (.iconst 1, 1) := by decide +kernel
theorem dX1_ringsCrossBehind_153 : decode cX1_ringsCrossBehind 153 = .ok (.goto 4, 3) := by decide +kernel
theorem dX1_ringsCrossBehind_156 : decode cX1_ringsCrossBehind 156 = .ok (.iconst 0, 1) := by decide +kernel
theorem dX1_ringsCrossBehind_157 : decode cX1_ringsCrossBehind 157 = .ok (.ireturn, 1) := by decide +kernel
theorem dX1_isLeft_0 : decode cX1_isLeft 0 = .ok (.aload_n 0, 1) := by decide +kernel
theorem dX1_isLeft_1 : decode cX1_isLeft 1 = .ok (.getfield 22, 3) := by decide +kernel
theorem dX1_isLeft_4 : decode cX1_isLeft 4 = .ok (.getfield 159, 3) := by decide +kernel
theorem dX1_isLeft_7 : decode cX1_isLeft 7 = .ok (.istore 5, 2) := by decide +kernel
theorem dX1_isLeft_9 : decode cX1_isLeft 9 = .ok (.aload_n 0, 1) := by decide +kernel
theorem dX1_isLeft_10 : decode cX1_isLeft 10 = .ok (.getfield 22, 3) := by decide +kernel
theorem dX1_isLeft_13 : decode cX1_isLeft 13 = .ok (.getfield 162, 3) := by decide +kernel
theorem dX1_isLeft_16 : decode cX1_isLeft 16 = .ok (.istore 6, 2) := by decide +kernel
theorem dX1_isLeft_18 : decode cX1_isLeft 18 = .ok (.aload_n 0, 1) := by decide +kernel
theorem dX1_isLeft_19 : decode cX1_isLeft 19 = .ok (.getfield 22, 3) := by decide +kernel
theorem dX1_isLeft_22 : decode cX1_isLeft 22 = .ok (.getfield 172, 3) := by decide +kernel
theorem dX1_isLeft_25 : decode cX1_isLeft 25 = .ok (.iload_n 2, 1) := by decide +kernel
theorem dX1_isLeft_26 : decode cX1_isLeft 26 = .ok (.iaload, 1) := by decide +kernel
theorem dX1_isLeft_27 : decode cX1_isLeft 27 = .ok (.istore 7, 2) := by decide +kernel
theorem dX1_isLeft_29 : decode cX1_isLeft 29 = .ok (.aload_n 0, 1) := by decide +kernel
theorem dX1_isLeft_30 : decode cX1_isLeft 30 = .ok (.getfield 22, 3) := by decide +kernel
theorem dX1_isLeft_33 : decode cX1_isLeft 33 = .ok (.getfield 175, 3) := by decide +kernel
theorem dX1_isLeft_36 : decode cX1_isLeft 36 = .ok (.iload_n 2, 1) := by decide +kernel
theorem dX1_isLeft_37 : decode cX1_isLeft 37 = .ok (.iaload, 1) := by decide +kernel
theorem dX1_isLeft_38 : decode cX1_isLeft 38 = .ok (.istore 8, 2) := by decide +kernel
theorem dX1_isLeft_40 : decode cX1_isLeft 40 = .ok (.aload_n 0, 1) := by decide +kernel
theorem dX1_isLeft_41 : decode cX1_isLeft 41 = .ok (.getfield 22, 3) := by decide +kernel
theorem dX1_isLeft_44 : decode cX1_isLeft 44 = .ok (.getfield 182, 3) := by decide +kernel
theorem dX1_isLeft_47 : decode cX1_isLeft 47 = .ok (.iload_n 1, 1) := by decide +kernel
theorem dX1_isLeft_48 : decode cX1_isLeft 48 = .ok (.iaload, 1) := by decide +kernel
theorem dX1_isLeft_49 : decode cX1_isLeft 49 = .ok (.istore 9, 2) := by decide +kernel
theorem dX1_isLeft_51 : decode cX1_isLeft 51 = .ok (.aload_n 0, 1) := by decide +kernel
theorem dX1_isLeft_52 : decode cX1_isLeft 52 = .ok (.getfield 22, 3) := by decide +kernel
theorem dX1_isLeft_55 : decode cX1_isLeft 55 = .ok (.getfield 185, 3) := by decide +kernel
theorem dX1_isLeft_58 : decode cX1_isLeft 58 = .ok (.iload_n 1, 1) := by decide +kernel
theorem dX1_isLeft_59 : decode cX1_isLeft 59 = .ok (.iaload, 1) := by decide +kernel
theorem dX1_isLeft_60 : decode cX1_isLeft 60 = .ok (.istore 10, 2) := by decide +kernel
theorem dX1_isLeft_62 : decode cX1_isLeft 62 = .ok (.iload 5, 2) := by decide +kernel
theorem dX1_isLeft_64 : decode cX1_isLeft 64 = .ok (.i2l, 1) := by decide +kernel
theorem dX1_isLeft_65 : decode cX1_isLeft 65 = .ok (.iload 6, 2) := by decide +kernel
theorem dX1_isLeft_67 : decode cX1_isLeft 67 = .ok (.i2l, 1) := by decide +kernel
theorem dX1_isLeft_68 : decode cX1_isLeft 68 = .ok (.iload 7, 2) := by decide +kernel
theorem dX1_isLeft_70 : decode cX1_isLeft 70 = .ok (.i2l, 1) := by decide +kernel
theorem dX1_isLeft_71 : decode cX1_isLeft 71 = .ok (.iload 8, 2) := by decide +kernel
theorem dX1_isLeft_73 : decode cX1_isLeft 73 = .ok (.i2l, 1) := by decide +kernel
theorem dX1_isLeft_74 : decode cX1_isLeft 74 = .ok (.iload_n 3, 1) := by decide +kernel
theorem dX1_isLeft_75 : decode cX1_isLeft 75 = .ok (.i2l, 1) := by decide +kernel
theorem dX1_isLeft_76 : decode cX1_isLeft 76 = .ok (.iload 4, 2) := by decide +kernel
theorem dX1_isLeft_78 : decode cX1_isLeft 78 = .ok (.i2l, 1) := by decide +kernel
theorem dX1_isLeft_79 : decode cX1_isLeft 79 = .ok (.invokestatic 188, 3) := by decide +kernel
theorem dX1_isLeft_82 : decode cX1_isLeft 82 = .ok (.istore 11, 2) := by decide +kernel
theorem dX1_isLeft_84 : decode cX1_isLeft 84 = .ok (.iload 5, 2) := by decide +kernel
theorem dX1_isLeft_86 : decode cX1_isLeft 86 = .ok (.i2l, 1) := by decide +kernel
theorem dX1_isLeft_87 : decode cX1_isLeft 87 = .ok (.iload 6, 2) := by decide +kernel
theorem dX1_isLeft_89 : decode cX1_isLeft 89 = .ok (.i2l, 1) := by decide +kernel
theorem dX1_isLeft_90 : decode cX1_isLeft 90 = .ok (.iload 9, 2) := by decide +kernel
theorem dX1_isLeft_92 : decode cX1_isLeft 92 = .ok (.i2l, 1) := by decide +kernel
theorem dX1_isLeft_93 : decode cX1_isLeft 93 = .ok (.iload 10, 2) := by decide +kernel
theorem dX1_isLeft_95 : decode cX1_isLeft 95 = .ok (.i2l, 1) := by decide +kernel
theorem dX1_isLeft_96 : decode cX1_isLeft 96 = .ok (.iload_n 3, 1) := by decide +kernel
theorem dX1_isLeft_97 : decode cX1_isLeft 97 = .ok (.i2l, 1) := by decide +kernel
theorem dX1_isLeft_98 : decode cX1_isLeft 98 = .ok (.iload 4, 2) := by decide +kernel
theorem dX1_isLeft_100 : decode cX1_isLeft 100 = .ok (.i2l, 1) := by decide +kernel
theorem dX1_isLeft_101 : decode cX1_isLeft 101 = .ok (.invokestatic 188, 3) := by decide +kernel
theorem dX1_isLeft_104 : decode cX1_isLeft 104 = .ok (.istore 12, 2) := by decide +kernel
theorem dX1_isLeft_106 : decode cX1_isLeft 106 = .ok (.iload 5, 2) := by decide +kernel
theorem dX1_isLeft_108 : decode cX1_isLeft 108 = .ok (.i2l, 1) := by decide +kernel
theorem dX1_isLeft_109 : decode cX1_isLeft 109 = .ok (.iload 6, 2) := by decide +kernel
theorem dX1_isLeft_111 : decode cX1_isLeft 111 = .ok (.i2l, 1) := by decide +kernel
theorem dX1_isLeft_112 : decode cX1_isLeft 112 = .ok (.iload 7, 2) := by decide +kernel
theorem dX1_isLeft_114 : decode cX1_isLeft 114 = .ok (.i2l, 1) := by decide +kernel
theorem dX1_isLeft_115 : decode cX1_isLeft 115 = .ok (.iload 8, 2) := by decide +kernel
theorem dX1_isLeft_117 : decode cX1_isLeft 117 = .ok (.i2l, 1) := by decide +kernel
theorem dX1_isLeft_118 : decode cX1_isLeft 118 = .ok (.iload 9, 2) := by decide +kernel
theorem dX1_isLeft_120 : decode cX1_isLeft 120 = .ok (.i2l, 1) := by decide +kernel
theorem dX1_isLeft_121 : decode cX1_isLeft 121 = .ok (.iload 10, 2) := by decide +kernel
theorem dX1_isLeft_123 : decode cX1_isLeft 123 = .ok (.i2l, 1) := by decide +kernel
theorem dX1_isLeft_124 : decode cX1_isLeft 124 = .ok (.invokestatic 188, 3) := by decide +kernel
theorem dX1_isLeft_127 : decode cX1_isLeft 127 = .ok (.istore 13, 2) := by decide +kernel
theorem dX1_isLeft_129 : decode cX1_isLeft 129 = .ok (.iload 13, 2) := by decide +kernel
theorem dX1_isLeft_131 : decode cX1_isLeft 131 = .ok (.ifCond .le 19, 3) := by decide +kernel
theorem dX1_isLeft_134 : decode cX1_isLeft 134 = .ok (.iload 11, 2) := by decide +kernel
theorem dX1_isLeft_136 : decode cX1_isLeft 136 = .ok (.ifCond .le 12, 3) := by decide +kernel
theorem dX1_isLeft_139 : decode cX1_isLeft 139 = .ok (.iload 12, 2) := by decide +kernel
theorem dX1_isLeft_141 : decode cX1_isLeft 141 = .ok (.ifCond .ge 7, 3) := by decide +kernel
theorem dX1_isLeft_144 : decode cX1_isLeft 144 = .ok (.iconst 1, 1) := by decide +kernel
theorem dX1_isLeft_145 : decode cX1_isLeft 145 = .ok (.goto 4, 3) := by decide +kernel
theorem dX1_isLeft_148 : decode cX1_isLeft 148 = .ok (.iconst 0, 1) := by decide +kernel
theorem dX1_isLeft_149 : decode cX1_isLeft 149 = .ok (.ireturn, 1) := by decide +kernel
theorem dX1_isLeft_150 : decode cX1_isLeft 150 = .ok (.iload 13, 2) := by decide +kernel
theorem dX1_isLeft_152 : decode cX1_isLeft 152 = .ok (.ifCond .ge 19, 3) := by decide +kernel
theorem dX1_isLeft_155 : decode cX1_isLeft 155 = .ok (.iload 11, 2) := by decide +kernel
theorem dX1_isLeft_157 : decode cX1_isLeft 157 = .ok (.ifCond .gt 8, 3) := by decide +kernel
theorem dX1_isLeft_160 : decode cX1_isLeft 160 = .ok (.iload 12, 2) := by decide +kernel
theorem dX1_isLeft_162 : decode cX1_isLeft 162 = .ok (.ifCond .ge 7, 3) := by decide +kernel
theorem dX1_isLeft_165 : decode cX1_isLeft 165 = .ok (.iconst 1, 1) := by decide +kernel
theorem dX1_isLeft_166 : decode cX1_isLeft 166 = .ok (.goto 4, 3) := by decide +kernel
theorem dX1_isLeft_169 : decode cX1_isLeft 169 = .ok (.iconst 0, 1) := by decide +kernel
theorem dX1_isLeft_170 : decode cX1_isLeft 170 = .ok (.ireturn, 1) := by decide +kernel
theorem dX1_isLeft_171 : decode cX1_isLeft 171 = .ok (.iload 7, 2) := by decide +kernel
theorem dX1_isLeft_173 : decode cX1_isLeft 173 = .ok (.iload 5, 2) := by decide +kernel
theorem dX1_isLeft_175 : decode cX1_isLeft 175 = .ok (.if_icmp .le 7, 3) := by decide +kernel
theorem dX1_isLeft_178 : decode cX1_isLeft 178 = .ok (.iconst 1, 1) := by decide +kernel
theorem dX1_isLeft_179 : decode cX1_isLeft 179 = .ok (.goto 4, 3) := by decide +kernel
theorem dX1_isLeft_182 : decode cX1_isLeft 182 = .ok (.iconst 0, 1) := by decide +kernel
theorem dX1_isLeft_183 : decode cX1_isLeft 183 = .ok (.iload 9, 2) := by decide +kernel
theorem dX1_isLeft_185 : decode cX1_isLeft 185 = .ok (.iload 5, 2) := by decide +kernel
theorem dX1_isLeft_187 : decode cX1_isLeft 187 = .ok (.if_icmp .le 7, 3) := by decide +kernel
theorem dX1_isLeft_190 : decode cX1_isLeft 190 = .ok (.iconst 1, 1) := by decide +kernel
theorem dX1_isLeft_191 : decode cX1_isLeft 191 = .ok (.goto 4, 3) := by decide +kernel
theorem dX1_isLeft_194 : decode cX1_isLeft 194 = .ok (.iconst 0, 1) := by decide +kernel
theorem dX1_isLeft_195 : decode cX1_isLeft 195 = .ok (.if_icmp .ne 88, 3) := by decide +kernel
theorem dX1_isLeft_198 : decode cX1_isLeft 198 = .ok (.iload 7, 2) := by decide +kernel
theorem dX1_isLeft_200 : decode cX1_isLeft 200 = .ok (.iload 5, 2) := by decide +kernel
theorem dX1_isLeft_202 : decode cX1_isLeft 202 = .ok (.if_icmp .ge 7, 3) := by decide +kernel
theorem dX1_isLeft_205 : decode cX1_isLeft 205 = .ok (.iconst 1, 1) := by decide +kernel
theorem dX1_isLeft_206 : decode cX1_isLeft 206 = .ok (.goto 4, 3) := by decide +kernel
theorem dX1_isLeft_209 : decode cX1_isLeft 209 = .ok (.iconst 0, 1) := by decide +kernel
theorem dX1_isLeft_210 : decode cX1_isLeft 210 = .ok (.iload 9, 2) := by decide +kernel
theorem dX1_isLeft_212 : decode cX1_isLeft 212 = .ok (.iload 5, 2) := by decide +kernel
theorem dX1_isLeft_214 : decode cX1_isLeft 214 = .ok (.if_icmp .ge 7, 3) := by decide +kernel
theorem dX1_isLeft_217 : decode cX1_isLeft 217 = .ok (.iconst 1, 1) := by decide +kernel
theorem dX1_isLeft_218 : decode cX1_isLeft 218 = .ok (.goto 4, 3) := by decide +kernel
theorem dX1_isLeft_221 : decode cX1_isLeft 221 = .ok (.iconst 0, 1) := by decide +kernel
theorem dX1_isLeft_222 : decode cX1_isLeft 222 = .ok (.if_icmp .ne 61, 3) := by decide +kernel
theorem dX1_isLeft_225 : decode cX1_isLeft 225 = .ok (.iload 8, 2) := by decide +kernel
theorem dX1_isLeft_227 : decode cX1_isLeft 227 = .ok (.iload 6, 2) := by decide +kernel
theorem dX1_isLeft_229 : decode cX1_isLeft 229 = .ok (.if_icmp .le 7, 3) := by decide +kernel
theorem dX1_isLeft_232 : decode cX1_isLeft 232 = .ok (.iconst 1, 1) := by decide +kernel
theorem dX1_isLeft_233 : decode cX1_isLeft 233 = .ok (.goto 4, 3) := by decide +kernel
theorem dX1_isLeft_236 : decode cX1_isLeft 236 = .ok (.iconst 0, 1) := by decide +kernel
theorem dX1_isLeft_237 : decode cX1_isLeft 237 = .ok (.iload 10, 2) := by decide +kernel
theorem dX1_isLeft_239 : decode cX1_isLeft 239 = .ok (.iload 6, 2) := by decide +kernel
theorem dX1_isLeft_241 : decode cX1_isLeft 241 = .ok (.if_icmp .le 7, 3) := by decide +kernel
theorem dX1_isLeft_244 : decode cX1_isLeft 244 = .ok (.iconst 1, 1) := by decide +kernel
theorem dX1_isLeft_245 : decode cX1_isLeft 245 = .ok (.goto 4, 3) := by decide +kernel
theorem dX1_isLeft_248 : decode cX1_isLeft 248 = .ok (.iconst 0, 1) := by decide +kernel
theorem dX1_isLeft_249 : decode cX1_isLeft 249 = .ok (.if_icmp .ne 34, 3) := by decide +kernel
theorem dX1_isLeft_252 : decode cX1_isLeft 252 = .ok (.iload 8, 2) := by decide +kernel
theorem dX1_isLeft_254 : decode cX1_isLeft 254 = .ok (.iload 6, 2) := by decide +kernel
theorem dX1_isLeft_256 : decode cX1_isLeft 256 = .ok (.if_icmp .ge 7, 3) := by decide +kernel
theorem dX1_isLeft_259 : decode cX1_isLeft 259 = .ok (.iconst 1, 1) := by decide +kernel
theorem dX1_isLeft_260 : decode cX1_isLeft 260 = .ok (.goto 4, 3) := by decide +kernel
theorem dX1_isLeft_263 : decode cX1_isLeft 263 = .ok (.iconst 0, 1) := by decide +kernel
theorem dX1_isLeft_264 : decode cX1_isLeft 264 = .ok (.iload 10, 2) := by decide +kernel
theorem dX1_isLeft_266 : decode cX1_isLeft 266 = .ok (.iload 6, 2) := by decide +kernel
theorem dX1_isLeft_268 : decode cX1_isLeft 268 = .ok (.if_icmp .ge 7, 3) := by decide +kernel
theorem dX1_isLeft_271 : decode cX1_isLeft 271 = .ok (.iconst 1, 1) := by decide +kernel
theorem dX1_isLeft_272 : decode cX1_isLeft 272 = .ok (.goto 4, 3) := by decide +kernel
theorem dX1_isLeft_275 : decode cX1_isLeft 275 = .ok (.iconst 0, 1) := by decide +kernel
theorem dX1_isLeft_276 : decode cX1_isLeft 276 = .ok (.if_icmp .ne 7, 3) := by decide +kernel
theorem dX1_isLeft_279 : decode cX1_isLeft 279 = .ok (.iconst 1, 1) := by decide +kernel
theorem dX1_isLeft_280 : decode cX1_isLeft 280 = .ok (.goto 4, 3) := by decide +kernel
theorem dX1_isLeft_283 : decode cX1_isLeft 283 = .ok (.iconst 0, 1) := by decide +kernel
theorem dX1_isLeft_284 : decode cX1_isLeft 284 = .ok (.istore 14, 2) := by decide +kernel
theorem dX1_isLeft_286 : decode cX1_isLeft 286 = .ok (.iload 14, 2) := by decide +kernel
theorem dX1_isLeft_288 : decode cX1_isLeft 288 = .ok (.ifCond .ne 12, 3) := by decide +kernel
theorem dX1_isLeft_291 : decode cX1_isLeft 291 = .ok (.iload 11, 2) := by decide +kernel
theorem dX1_isLeft_293 : decode cX1_isLeft 293 = .ok (.ifCond .le 7, 3) := by decide +kernel
theorem dX1_isLeft_296 : decode cX1_isLeft 296 = .ok (.iconst 1, 1) := by decide +kernel
theorem dX1_isLeft_297 : decode cX1_isLeft 297 = .ok (.goto 4, 3) := by decide +kernel
theorem dX1_isLeft_300 : decode cX1_isLeft 300 = .ok (.iconst 0, 1) := by decide +kernel
theorem dX1_isLeft_301 : decode cX1_isLeft 301 = .ok (.ireturn, 1) := by decide +kernel
theorem dX1_holesFault_0 : decode cX1_holesFault 0 = .ok (.aload_n 0, 1) := by decide +kernel
theorem dX1_holesFault_1 : decode cX1_holesFault 1 = .ok (.iload_n 1, 1) := by decide +kernel
theorem dX1_holesFault_2 : decode cX1_holesFault 2 = .ok (.invokevirtual 135, 3) := by decide +kernel
theorem dX1_holesFault_5 : decode cX1_holesFault 5 = .ok (.ifCond .eq 5, 3) := by decide +kernel
theorem dX1_holesFault_8 : decode cX1_holesFault 8 = .ok (.iconst 0, 1) := by decide +kernel
theorem dX1_holesFault_9 : decode cX1_holesFault 9 = .ok (.ireturn, 1) := by decide +kernel
theorem dX1_holesFault_10 : decode cX1_holesFault 10 = .ok (.aload_n 0, 1) := by decide +kernel
theorem dX1_holesFault_11 : decode cX1_holesFault 11 = .ok (.getfield 41, 3) := by decide +kernel
theorem dX1_holesFault_14 : decode cX1_holesFault 14 = .ok (.iload_n 1, 1) := by decide +kernel
theorem dX1_holesFault_15 : decode cX1_holesFault 15 = .ok (.iaload, 1) := by decide +kernel
theorem dX1_holesFault_16 : decode cX1_holesFault 16 = .ok (.istore_n 2, 1) := by decide +kernel
theorem dX1_holesFault_17 : decode cX1_holesFault 17 = .ok (.iload_n 2, 1) := by decide +kernel
theorem dX1_holesFault_18 : decode cX1_holesFault 18 = .ok (.iconst 1, 1) := by decide +kernel
theorem dX1_holesFault_19 : decode cX1_holesFault 19 = .ok (.iadd, 1) := by decide +kernel
theorem dX1_holesFault_20 : decode cX1_holesFault 20 = .ok (.istore_n 3, 1) := by decide +kernel
theorem dX1_holesFault_21 : decode cX1_holesFault 21 = .ok (.iload_n 3, 1) := by decide +kernel
theorem dX1_holesFault_22 : decode cX1_holesFault 22 = .ok (.aload_n 0, 1) := by decide +kernel
theorem dX1_holesFault_23 : decode cX1_holesFault 23 = .ok (.getfield 44, 3) := by decide +kernel
theorem dX1_holesFault_26 : decode cX1_holesFault 26 = .ok (.iload_n 1, 1) := by decide +kernel
theorem dX1_holesFault_27 : decode cX1_holesFault 27 = .ok (.iaload, 1) := by decide +kernel
theorem dX1_holesFault_28 : decode cX1_holesFault 28 = .ok (.if_icmp .ge 32, 3) := by decide +kernel
theorem dX1_holesFault_31 : decode cX1_holesFault 31 = .ok (.aload_n 0, 1) := by decide +kernel
theorem dX1_holesFault_32 : decode cX1_holesFault 32 = .ok (.iload_n 3, 1) := by decide +kernel
theorem dX1_holesFault_33 : decode cX1_holesFault 33 = .ok (.iload_n 2, 1) := by decide +kernel
theorem dX1_holesFault_34 : decode cX1_holesFault 34 = .ok (.invokevirtual 192, 3) := by decide +kernel
theorem dX1_holesFault_37 : decode cX1_holesFault 37 = .ok (.ifCond .ne 17, 3) := by decide +kernel
theorem dX1_holesFault_40 : decode cX1_holesFault 40 = .ok (.aload_n 0, 1) := by decide +kernel
theorem dX1_holesFault_41 : decode cX1_holesFault 41 = .ok (.bipush 6, 2) := by decide +kernel
theorem dX1_holesFault_43 : decode cX1_holesFault 43 = .ok (.iload_n 1, 1) := by decide +kernel
theorem dX1_holesFault_44 : decode cX1_holesFault 44 = .ok (.aload_n 0, 1) := by decide +kernel
theorem dX1_holesFault_45 : decode cX1_holesFault 45 = .ok (.getfield 32, 3) := by decide +kernel
theorem dX1_holesFault_48 : decode cX1_holesFault 48 = .ok (.iload_n 3, 1) := by decide +kernel
theorem dX1_holesFault_49 : decode cX1_holesFault 49 = .ok (.iaload, 1) := by decide +kernel
theorem dX1_holesFault_50 : decode cX1_holesFault 50 = .ok (.invokevirtual 108, 3) := by decide +kernel
theorem dX1_holesFault_53 : decode cX1_holesFault 53 = .ok (.ireturn, 1) := by decide +kernel
theorem dX1_holesFault_54 : decode cX1_holesFault 54 = .ok (.iinc 3 1, 3) := by decide +kernel
theorem dX1_holesFault_57 : decode cX1_holesFault 57 = .ok (.goto (-36), 3) := by decide +kernel
theorem dX1_holesFault_60 : decode cX1_holesFault 60 = .ok (.iload_n 2, 1) := by decide +kernel
theorem dX1_holesFault_61 : decode cX1_holesFault 61 = .ok (.iconst 1, 1) := by decide +kernel
theorem dX1_holesFault_62 : decode cX1_holesFault 62 = .ok (.iadd, 1) := by decide +kernel
theorem dX1_holesFault_63 : decode cX1_holesFault 63 = .ok (.istore_n 3, 1) := by decide +kernel
theorem dX1_holesFault_64 : decode cX1_holesFault 64 = .ok (.iload_n 3, 1) := by decide +kernel
theorem dX1_holesFault_65 : decode cX1_holesFault 65 = .ok (.aload_n 0, 1) := by decide +kernel
theorem dX1_holesFault_66 : decode cX1_holesFault 66 = .ok (.getfield 44, 3) := by decide +kernel
theorem dX1_holesFault_69 : decode cX1_holesFault 69 = .ok (.iload_n 1, 1) := by decide +kernel
theorem dX1_holesFault_70 : decode cX1_holesFault 70 = .ok (.iaload, 1) := by decide +kernel
theorem dX1_holesFault_71 : decode cX1_holesFault 71 = .ok (.if_icmp .ge 85, 3) := by decide +kernel
theorem dX1_holesFault_74 : decode cX1_holesFault 74 = .ok (.iload_n 3, 1) := by decide +kernel
theorem dX1_holesFault_75 : decode cX1_holesFault 75 = .ok (.iconst 1, 1) := by decide +kernel
theorem dX1_holesFault_76 : decode cX1_holesFault 76 = .ok (.iadd, 1) := by decide +kernel
theorem dX1_holesFault_77 : decode cX1_holesFault 77 = .ok (.istore 4, 2) := by decide +kernel
theorem dX1_holesFault_79 : decode cX1_holesFault 79 = .ok (.iload 4, 2) := by decide +kernel
theorem dX1_holesFault_81 : decode cX1_holesFault 81 = .ok (.aload_n 0, 1) := by decide +kernel
theorem dX1_holesFault_82 : decode cX1_holesFault 82 = .ok (.getfield 44, 3) := by decide +kernel
theorem dX1_holesFault_85 : decode cX1_holesFault 85 = .ok (.iload_n 1, 1) := by decide +kernel
theorem dX1_holesFault_86 : decode cX1_holesFault 86 = .ok (.iaload, 1) := by decide +kernel
theorem dX1_holesFault_87 : decode cX1_holesFault 87 = .ok (.if_icmp .ge 63, 3) := by decide +kernel
theorem dX1_holesFault_90 : decode cX1_holesFault 90 = .ok (.aload_n 0, 1) := by decide +kernel
theorem dX1_holesFault_91 : decode cX1_holesFault 91 = .ok (.iload_n 3, 1) := by decide +kernel
theorem dX1_holesFault_92 : decode cX1_holesFault 92 = .ok (.iload 4, 2) := by decide +kernel
theorem dX1_holesFault_94 : decode cX1_holesFault 94 = .ok (.invokevirtual 192, 3) := by decide +kernel
theorem dX1_holesFault_97 : decode cX1_holesFault 97 = .ok (.ifCond .ne 13, 3) := by decide +kernel
theorem dX1_holesFault_100 : decode cX1_holesFault 100 = .ok (.aload_n 0, 1) := by decide +kernel
theorem dX1_holesFault_101 : decode cX1_holesFault 101 = .ok (.iload 4, 2) := by decide +kernel
theorem dX1_holesFault_103 : decode cX1_holesFault 103 = .ok (.iload_n 3, 1) := by decide +kernel
theorem dX1_holesFault_104 : decode cX1_holesFault 104 = .ok (.invokevirtual 192, 3) := by decide +kernel
theorem dX1_holesFault_107 : decode cX1_holesFault 107 = .ok (.ifCond .eq 37, 3) := by decide +kernel
theorem dX1_holesFault_110 : decode cX1_holesFault 110 = .ok (.aload_n 0, 1) := by decide +kernel
theorem dX1_holesFault_111 : decode cX1_holesFault 111 = .ok (.getfield 11, 3) := by decide +kernel
theorem dX1_holesFault_114 : decode cX1_holesFault 114 = .ok (.iconst 4, 1) := by decide +kernel
theorem dX1_holesFault_115 : decode cX1_holesFault 115 = .ok (.iload_n 1, 1) := by decide +kernel
theorem dX1_holesFault_116 : decode cX1_holesFault 116 = .ok (.iastore, 1) := by decide +kernel
theorem dX1_holesFault_117 : decode cX1_holesFault 117 = .ok (.aload_n 0, 1) := by decide +kernel
theorem dX1_holesFault_118 : decode cX1_holesFault 118 = .ok (.getfield 11, 3) := by decide +kernel
theorem dX1_holesFault_121 : decode cX1_holesFault 121 = .ok (.iconst 5, 1) := by decide +kernel
theorem dX1_holesFault_122 : decode cX1_holesFault 122 = .ok (.aload_n 0, 1) := by decide +kernel
theorem dX1_holesFault_123 : decode cX1_holesFault 123 = .ok (.getfield 32, 3) := by decide +kernel
theorem dX1_holesFault_126 : decode cX1_holesFault 126 = .ok (.iload 4, 2) := by decide +kernel
theorem dX1_holesFault_128 : decode cX1_holesFault 128 = .ok (.iaload, 1) := by decide +kernel
theorem dX1_holesFault_129 : decode cX1_holesFault 129 = .ok (.iastore, 1) := by decide +kernel
theorem dX1_holesFault_130 : decode cX1_holesFault 130 = .ok (.aload_n 0, 1) := by decide +kernel
theorem dX1_holesFault_131 : decode cX1_holesFault 131 = .ok (.bipush 7, 2) := by decide +kernel
theorem dX1_holesFault_133 : decode cX1_holesFault 133 = .ok (.iload_n 1, 1) := by decide +kernel
theorem dX1_holesFault_134 : decode cX1_holesFault 134 = .ok (.aload_n 0, 1) := by decide +kernel
theorem dX1_holesFault_135 : decode cX1_holesFault 135 = .ok (.getfield 32, 3) := by decide +kernel
theorem dX1_holesFault_138 : decode cX1_holesFault 138 = .ok (.iload_n 3, 1) := by decide +kernel
theorem dX1_holesFault_139 : decode cX1_holesFault 139 = .ok (.iaload, 1) := by decide +kernel
theorem dX1_holesFault_140 : decode cX1_holesFault 140 = .ok (.invokevirtual 108, 3) := by decide +kernel
theorem dX1_holesFault_143 : decode cX1_holesFault 143 = .ok (.ireturn, 1) := by decide +kernel
theorem dX1_holesFault_144 : decode cX1_holesFault 144 = .ok (.iinc 4 1, 3) := by decide +kernel
theorem dX1_holesFault_147 : decode cX1_holesFault 147 = .ok (.goto (-68), 3) := by decide +kernel
theorem dX1_holesFault_150 : decode cX1_holesFault 150 = .ok (.iinc 3 1, 3) := by decide +kernel
theorem dX1_holesFault_153 : decode cX1_holesFault 153 = .ok (.goto (-89), 3) := by decide +kernel
theorem dX1_holesFault_156 : decode cX1_holesFault 156 = .ok (.iconst 0, 1) := by decide +kernel
theorem dX1_holesFault_157 : decode cX1_holesFault 157 = .ok (.ireturn, 1) := by decide +kernel
theorem dX1_liesIn_0 : decode cX1_liesIn 0 = .ok (.aload_n 0, 1) := by decide +kernel
theorem dX1_liesIn_1 : decode cX1_liesIn 1 = .ok (.getfield 35, 3) := by decide +kernel
theorem dX1_liesIn_4 : decode cX1_liesIn 4 = .ok (.iload_n 1, 1) := by decide +kernel
theorem dX1_liesIn_5 : decode cX1_liesIn 5 = .ok (.iaload, 1) := by decide +kernel
theorem dX1_liesIn_6 : decode cX1_liesIn 6 = .ok (.istore_n 3, 1) := by decide +kernel
theorem dX1_liesIn_7 : decode cX1_liesIn 7 = .ok (.iload_n 3, 1) := by decide +kernel
theorem dX1_liesIn_8 : decode cX1_liesIn 8 = .ok (.aload_n 0, 1) := by decide +kernel
theorem dX1_liesIn_9 : decode cX1_liesIn 9 = .ok (.getfield 38, 3) := by decide +kernel
theorem dX1_liesIn_12 : decode cX1_liesIn 12 = .ok (.iload_n 1, 1) := by decide +kernel
theorem dX1_liesIn_13 : decode cX1_liesIn 13 = .ok (.iaload, 1) := by decide +kernel
theorem dX1_liesIn_14 : decode cX1_liesIn 14 = .ok (.if_icmp .ge 51, 3) := by decide +kernel
theorem dX1_liesIn_17 : decode cX1_liesIn 17 = .ok (.aload_n 0, 1) := by decide +kernel
theorem dX1_liesIn_18 : decode cX1_liesIn 18 = .ok (.iload_n 2, 1) := by decide +kernel
theorem dX1_liesIn_19 : decode cX1_liesIn 19 = .ok (.aload_n 0, 1) := by decide +kernel
theorem dX1_liesIn_20 : decode cX1_liesIn 20 = .ok (.getfield 22, 3) := by decide +kernel
theorem dX1_liesIn_23 : decode cX1_liesIn 23 = .ok (.getfield 182, 3) := by decide +kernel
theorem dX1_liesIn_26 : decode cX1_liesIn 26 = .ok (.iload_n 3, 1) := by decide +kernel
theorem dX1_liesIn_27 : decode cX1_liesIn 27 = .ok (.iaload, 1) := by decide +kernel
theorem dX1_liesIn_28 : decode cX1_liesIn 28 = .ok (.aload_n 0, 1) := by decide +kernel
theorem dX1_liesIn_29 : decode cX1_liesIn 29 = .ok (.getfield 22, 3) := by decide +kernel
theorem dX1_liesIn_32 : decode cX1_liesIn 32 = .ok (.getfield 185, 3) := by decide +kernel
theorem dX1_liesIn_35 : decode cX1_liesIn 35 = .ok (.iload_n 3, 1) := by decide +kernel
theorem dX1_liesIn_36 : decode cX1_liesIn 36 = .ok (.iaload, 1) := by decide +kernel
theorem dX1_liesIn_37 : decode cX1_liesIn 37 = .ok (.invokevirtual 195, 3) := by decide +kernel
theorem dX1_liesIn_40 : decode cX1_liesIn 40 = .ok (.istore 4, 2) := by decide +kernel
theorem dX1_liesIn_42 : decode cX1_liesIn 42 = .ok (.iload 4, 2) := by decide +kernel
theorem dX1_liesIn_44 : decode cX1_liesIn 44 = .ok (.iconst 1, 1) := by decide +kernel
theorem dX1_liesIn_45 : decode cX1_liesIn 45 = .ok (.if_icmp .eq 14, 3) := by decide +kernel
theorem dX1_liesIn_48 : decode cX1_liesIn 48 = .ok (.iload 4, 2) := by decide +kernel
theorem dX1_liesIn_50 : decode cX1_liesIn 50 = .ok (.ifCond .ne 7, 3) := by decide +kernel
theorem dX1_liesIn_53 : decode cX1_liesIn 53 = .ok (.iconst 1, 1) := by decide +kernel
theorem dX1_liesIn_54 : decode cX1_liesIn 54 = .ok (.goto 4, 3) := by decide +kernel
theorem dX1_liesIn_57 : decode cX1_liesIn 57 = .ok (.iconst 0, 1) := by decide +kernel
theorem dX1_liesIn_58 : decode cX1_liesIn 58 = .ok (.ireturn, 1) := by decide +kernel
theorem dX1_liesIn_59 : decode cX1_liesIn 59 = .ok (.iinc 3 1, 3) := by decide +kernel
theorem dX1_liesIn_62 : decode cX1_liesIn 62 = .ok (.goto (-55), 3) := by decide +kernel
theorem dX1_liesIn_65 : decode cX1_liesIn 65 = .ok (.aload_n 0, 1) := by decide +kernel
theorem dX1_liesIn_66 : decode cX1_liesIn 66 = .ok (.getfield 35, 3) := by decide +kernel
theorem dX1_liesIn_69 : decode cX1_liesIn 69 = .ok (.iload_n 1, 1) := by decide +kernel
theorem dX1_liesIn_70 : decode cX1_liesIn 70 = .ok (.iaload, 1) := by decide +kernel
theorem dX1_liesIn_71 : decode cX1_liesIn 71 = .ok (.aload_n 0, 1) := by decide +kernel
theorem dX1_liesIn_72 : decode cX1_liesIn 72 = .ok (.getfield 38, 3) := by decide +kernel
theorem dX1_liesIn_75 : decode cX1_liesIn 75 = .ok (.iload_n 1, 1) := by decide +kernel
theorem dX1_liesIn_76 : decode cX1_liesIn 76 = .ok (.iaload, 1) := by decide +kernel
theorem dX1_liesIn_77 : decode cX1_liesIn 77 = .ok (.if_icmp .ge 21, 3) := by decide +kernel
theorem dX1_liesIn_80 : decode cX1_liesIn 80 = .ok (.aload_n 0, 1) := by decide +kernel
theorem dX1_liesIn_81 : decode cX1_liesIn 81 = .ok (.iload_n 2, 1) := by decide +kernel
theorem dX1_liesIn_82 : decode cX1_liesIn 82 = .ok (.aload_n 0, 1) := by decide +kernel
theorem dX1_liesIn_83 : decode cX1_liesIn 83 = .ok (.getfield 35, 3) := by decide +kernel
theorem dX1_liesIn_86 : decode cX1_liesIn 86 = .ok (.iload_n 1, 1) := by decide +kernel
theorem dX1_liesIn_87 : decode cX1_liesIn 87 = .ok (.iaload, 1) := by decide +kernel
theorem dX1_liesIn_88 : decode cX1_liesIn 88 = .ok (.invokevirtual 198, 3) := by decide +kernel
theorem dX1_liesIn_91 : decode cX1_liesIn 91 = .ok (.ifCond .eq 7, 3) := by decide +kernel
theorem dX1_liesIn_94 : decode cX1_liesIn 94 = .ok (.iconst 1, 1) := by decide +kernel
theorem dX1_liesIn_95 : decode cX1_liesIn 95 = .ok (.goto 4, 3) := by decide +kernel
theorem dX1_liesIn_98 : decode cX1_liesIn 98 = .ok (.iconst 0, 1) := by decide +kernel
theorem dX1_liesIn_99 : decode cX1_liesIn 99 = .ok (.ireturn, 1) := by decide +kernel
theorem dX1_whereIs_0 : decode cX1_whereIs 0 = .ok (.iconst 0, 1) := by decide +kernel
theorem dX1_whereIs_1 : decode cX1_whereIs 1 = .ok (.istore 4, 2) := by decide +kernel
theorem dX1_whereIs_3 : decode cX1_whereIs 3 = .ok (.aload_n 0, 1) := by decide +kernel
theorem dX1_whereIs_4 : decode cX1_whereIs 4 = .ok (.getfield 35, 3) := by decide +kernel
theorem dX1_whereIs_7 : decode cX1_whereIs 7 = .ok (.iload_n 1, 1) := by decide +kernel
theorem dX1_whereIs_8 : decode cX1_whereIs 8 = .ok (.iaload, 1) := by decide +kernel
theorem dX1_whereIs_9 : decode cX1_whereIs 9 = .ok (.istore 5, 2) := by decide +kernel
theorem dX1_whereIs_11 : decode cX1_whereIs 11 = .ok (.iload 5, 2) := by decide +kernel
theorem dX1_whereIs_13 : decode cX1_whereIs 13 = .ok (.aload_n 0, 1) := by decide +kernel
theorem dX1_whereIs_14 : decode cX1_whereIs 14 = .ok (.getfield 38, 3) := by decide +kernel
theorem dX1_whereIs_17 : decode cX1_whereIs 17 = .ok (.iload_n 1, 1) := by decide +kernel
theorem dX1_whereIs_18 : decode cX1_whereIs 18 = .ok (.iaload, 1) := by decide +kernel
theorem dX1_whereIs_19 : decode cX1_whereIs 19 = .ok (.if_icmp .ge 103, 3) := by decide +kernel
theorem dX1_whereIs_22 : decode cX1_whereIs 22 = .ok (.aload_n 0, 1) := by decide +kernel
theorem dX1_whereIs_23 : decode cX1_whereIs 23 = .ok (.getfield 22, 3) := by decide +kernel
theorem dX1_whereIs_26 : decode cX1_whereIs 26 = .ok (.getfield 182, 3) := by decide +kernel
theorem dX1_whereIs_29 : decode cX1_whereIs 29 = .ok (.iload 5, 2) := by decide +kernel
theorem dX1_whereIs_31 : decode cX1_whereIs 31 = .ok (.iaload, 1) := by decide +kernel
theorem dX1_whereIs_32 : decode cX1_whereIs 32 = .ok (.istore 6, 2) := by decide +kernel
theorem dX1_whereIs_34 : decode cX1_whereIs 34 = .ok (.aload_n 0, 1) := by decide +kernel
theorem dX1_whereIs_35 : decode cX1_whereIs 35 = .ok (.getfield 22, 3) := by decide +kernel
theorem dX1_whereIs_38 : decode cX1_whereIs 38 = .ok (.getfield 185, 3) := by decide +kernel
theorem dX1_whereIs_41 : decode cX1_whereIs 41 = .ok (.iload 5, 2) := by decide +kernel
theorem dX1_whereIs_43 : decode cX1_whereIs 43 = .ok (.iaload, 1) := by decide +kernel
theorem dX1_whereIs_44 : decode cX1_whereIs 44 = .ok (.istore 7, 2) := by decide +kernel
theorem dX1_whereIs_46 : decode cX1_whereIs 46 = .ok (.aload_n 0, 1) := by decide +kernel
theorem dX1_whereIs_47 : decode cX1_whereIs 47 = .ok (.getfield 22, 3) := by decide +kernel
theorem dX1_whereIs_50 : decode cX1_whereIs 50 = .ok (.getfield 172, 3) := by decide +kernel
theorem dX1_whereIs_53 : decode cX1_whereIs 53 = .ok (.iload 5, 2) := by decide +kernel
theorem dX1_whereIs_55 : decode cX1_whereIs 55 = .ok (.iaload, 1) := by decide +kernel
theorem dX1_whereIs_56 : decode cX1_whereIs 56 = .ok (.istore 8, 2) := by decide +kernel
theorem dX1_whereIs_58 : decode cX1_whereIs 58 = .ok (.aload_n 0, 1) := by decide +kernel
theorem dX1_whereIs_59 : decode cX1_whereIs 59 = .ok (.getfield 22, 3) := by decide +kernel
theorem dX1_whereIs_62 : decode cX1_whereIs 62 = .ok (.getfield 175, 3) := by decide +kernel
theorem dX1_whereIs_65 : decode cX1_whereIs 65 = .ok (.iload 5, 2) := by decide +kernel
theorem dX1_whereIs_67 : decode cX1_whereIs 67 = .ok (.iaload, 1) := by decide +kernel
theorem dX1_whereIs_68 : decode cX1_whereIs 68 = .ok (.istore 9, 2) := by decide +kernel
theorem dX1_whereIs_70 : decode cX1_whereIs 70 = .ok (.iload 6, 2) := by decide +kernel
theorem dX1_whereIs_72 : decode cX1_whereIs 72 = .ok (.iload 7, 2) := by decide +kernel
theorem dX1_whereIs_74 : decode cX1_whereIs 74 = .ok (.iload 8, 2) := by decide +kernel
theorem dX1_whereIs_76 : decode cX1_whereIs 76 = .ok (.iload 9, 2) := by decide +kernel
theorem dX1_whereIs_78 : decode cX1_whereIs 78 = .ok (.iload_n 2, 1) := by decide +kernel
theorem dX1_whereIs_79 : decode cX1_whereIs 79 = .ok (.iload_n 3, 1) := by decide +kernel
theorem dX1_whereIs_80 : decode cX1_whereIs 80 = .ok (.invokestatic 201, 3) := by decide +kernel
theorem dX1_whereIs_83 : decode cX1_whereIs 83 = .ok (.ifCond .eq 5, 3) := by decide +kernel
theorem dX1_whereIs_86 : decode cX1_whereIs 86 = .ok (.iconst 1, 1) := by decide +kernel
theorem dX1_whereIs_87 : decode cX1_whereIs 87 = .ok (.ireturn, 1) := by decide +kernel
theorem dX1_whereIs_88 : decode cX1_whereIs 88 = .ok (.iload 6, 2) := by decide +kernel
theorem dX1_whereIs_90 : decode cX1_whereIs 90 = .ok (.iload 7, 2) := by decide +kernel
theorem dX1_whereIs_92 : decode cX1_whereIs 92 = .ok (.iload 8, 2) := by decide +kernel
theorem dX1_whereIs_94 : decode cX1_whereIs 94 = .ok (.iload 9, 2) := by decide +kernel
theorem dX1_whereIs_96 : decode cX1_whereIs 96 = .ok (.iload_n 2, 1) := by decide +kernel
theorem dX1_whereIs_97 : decode cX1_whereIs 97 = .ok (.iload_n 3, 1) := by decide +kernel
theorem dX1_whereIs_98 : decode cX1_whereIs 98 = .ok (.invokestatic 205, 3) := by decide +kernel
theorem dX1_whereIs_101 : decode cX1_whereIs 101 = .ok (.ifCond .eq 15, 3) := by decide +kernel
theorem dX1_whereIs_104 : decode cX1_whereIs 104 = .ok (.iload 4, 2) := by decide +kernel
theorem dX1_whereIs_106 : decode cX1_whereIs 106 = .ok (.ifCond .ne 7, 3) := by decide +kernel
theorem dX1_whereIs_109 : decode cX1_whereIs 109 = .ok (.iconst 1, 1) := by decide +kernel
theorem dX1_whereIs_110 : decode cX1_whereIs 110 = .ok (.goto 4, 3) := by decide +kernel
theorem dX1_whereIs_113 : decode cX1_whereIs 113 = .ok (.iconst 0, 1) := by decide +kernel
theorem dX1_whereIs_114 : decode cX1_whereIs 114 = .ok (.istore 4, 2) := by decide +kernel
theorem dX1_whereIs_116 : decode cX1_whereIs 116 = .ok (.iinc 5 1, 3) := by decide +kernel
theorem dX1_whereIs_119 : decode cX1_whereIs 119 = .ok (.goto (-108), 3) := by decide +kernel
theorem dX1_whereIs_122 : decode cX1_whereIs 122 = .ok (.iload 4, 2) := by decide +kernel
theorem dX1_whereIs_124 : decode cX1_whereIs 124 = .ok (.ifCond .eq 7, 3) := by decide +kernel
theorem dX1_whereIs_127 : decode cX1_whereIs 127 = .ok (.iconst 0, 1) := by decide +kernel
theorem dX1_whereIs_128 : decode cX1_whereIs 128 = .ok (.goto 4, 3) := by decide +kernel
theorem dX1_whereIs_131 : decode cX1_whereIs 131 = .ok (.iconst 2, 1) := by decide +kernel
theorem dX1_whereIs_132 : decode cX1_whereIs 132 = .ok (.ireturn, 1) := by decide +kernel
