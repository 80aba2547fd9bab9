theorem dX12_end_0 : decode cX12_end 0 = .ok (.aload_n 0, 1) := by decide +kernel
theorem dX12_end_1 : decode cX12_end 1 = .ok (.iconst 0, 1) := by decide +kernel
theorem dX12_end_2 : decode cX12_end 2 = .ok (.putfield 271, 3) := by decide +kernel
theorem dX12_end_5 : decode cX12_end 5 = .ok (.aload_n 0, 1) := by decide +kernel
theorem dX12_end_6 : decode cX12_end 6 = .ok (.iload_n 1, 1) := by decide +kernel
theorem dX12_end_7 : decode cX12_end 7 = .ok (.i2l, 1) := by decide +kernel
theorem dX12_end_8 : decode cX12_end 8 = .ok (.lconst 0, 1) := by decide +kernel
theorem dX12_end_9 : decode cX12_end 9 = .ok (.ldc2_w 285, 3) := by decide +kernel
theorem dX12_end_12 : decode cX12_end 12 = .ok (.invokestatic 287, 3) := by decide +kernel
theorem dX12_end_15 : decode cX12_end 15 = .ok (.ifCond .ne 7, 3) := by decide +kernel
theorem dX12_end_18 : decode cX12_end 18 = .ok (.iconst 1, 1) := by decide +kernel
theorem dX12_end_19 : decode cX12_end 19 = .ok (.goto 4, 3) := by decide +kernel
theorem dX12_end_22 : decode cX12_end 22 = .ok (.iconst 0, 1) := by decide +kernel
theorem dX12_end_23 : decode cX12_end 23 = .ok (.iconst 1, 1) := by decide +kernel
theorem dX12_end_24 : decode cX12_end 24 = .ok (.invokevirtual 277, 3) := by decide +kernel
theorem dX12_end_27 : decode cX12_end 27 = .ok (.ifCond .ne 25, 3) := by decide +kernel
theorem dX12_end_30 : decode cX12_end 30 = .ok (.aload_n 0, 1) := by decide +kernel
theorem dX12_end_31 : decode cX12_end 31 = .ok (.aload_n 0, 1) := by decide +kernel
theorem dX12_end_32 : decode cX12_end 32 = .ok (.getfield 274, 3) := by decide +kernel
theorem dX12_end_35 : decode cX12_end 35 = .ok (.bipush 20, 2) := by decide +kernel
theorem dX12_end_37 : decode cX12_end 37 = .ok (.if_icmp .ge 7, 3) := by decide +kernel
theorem dX12_end_40 : decode cX12_end 40 = .ok (.iconst 1, 1) := by decide +kernel
theorem dX12_end_41 : decode cX12_end 41 = .ok (.goto 4, 3) := by decide +kernel
theorem dX12_end_44 : decode cX12_end 44 = .ok (.iconst 0, 1) := by decide +kernel
theorem dX12_end_45 : decode cX12_end 45 = .ok (.iconst 2, 1) := by decide +kernel
theorem dX12_end_46 : decode cX12_end 46 = .ok (.invokevirtual 277, 3) := by decide +kernel
theorem dX12_end_49 : decode cX12_end 49 = .ok (.ifCond .eq 5, 3) := by decide +kernel
theorem dX12_end_52 : decode cX12_end 52 = .ok (.iconst 0, 1) := by decide +kernel
theorem dX12_end_53 : decode cX12_end 53 = .ok (.ireturn, 1) := by decide +kernel
theorem dX12_end_54 : decode cX12_end 54 = .ok (.aload_n 0, 1) := by decide +kernel
theorem dX12_end_55 : decode cX12_end 55 = .ok (.dup, 1) := by decide +kernel
theorem dX12_end_56 : decode cX12_end 56 = .ok (.getfield 274, 3) := by decide +kernel
theorem dX12_end_59 : decode cX12_end 59 = .ok (.bipush 20, 2) := by decide +kernel
theorem dX12_end_61 : decode cX12_end 61 = .ok (.iload_n 1, 1) := by decide +kernel
theorem dX12_end_62 : decode cX12_end 62 = .ok (.isub, 1) := by decide +kernel
theorem dX12_end_63 : decode cX12_end 63 = .ok (.isub, 1) := by decide +kernel
theorem dX12_end_64 : decode cX12_end 64 = .ok (.putfield 274, 3) := by decide +kernel
theorem dX12_end_67 : decode cX12_end 67 = .ok (.aload_n 0, 1) := by decide +kernel
theorem dX12_end_68 : decode cX12_end 68 = .ok (.getfield 274, 3) := by decide +kernel
theorem dX12_end_71 : decode cX12_end 71 = .ok (.ireturn, 1) := by decide +kernel
theorem dX12_again_0 : decode cX12_again 0 = .ok (.aload_n 0, 1) := by decide +kernel
theorem dX12_again_1 : decode cX12_again 1 = .ok (.iconst 0, 1) := by decide +kernel
theorem dX12_again_2 : decode cX12_again 2 = .ok (.putfield 271, 3) := by decide +kernel
theorem dX12_again_5 : decode cX12_again 5 = .ok (.aload_n 0, 1) := by decide +kernel
theorem dX12_again_6 : decode cX12_again 6 = .ok (.aload_n 0, 1) := by decide +kernel
theorem dX12_again_7 : decode cX12_again 7 = .ok (.getfield 291, 3) := by decide +kernel
theorem dX12_again_10 : decode cX12_again 10 = .ok (.ldc 7, 2) := by decide +kernel
theorem dX12_again_12 : decode cX12_again 12 = .ok (.if_icmp .ge 10, 3) := by decide +kernel
theorem dX12_again_15 : decode cX12_again 15 = .ok (.aload_n 0, 1) := by decide +kernel
theorem dX12_again_16 : decode cX12_again 16 = .ok (.getfield 291, 3) := by decide +kernel
theorem dX12_again_19 : decode cX12_again 19 = .ok (.goto 5, 3) := by decide +kernel
theorem dX12_again_22 : decode cX12_again 22 = .ok (.ldc 7, 2) := by decide +kernel
theorem dX12_again_24 : decode cX12_again 24 = .ok (.putfield 274, 3) := by decide +kernel
theorem dX12_again_27 : decode cX12_again 27 = .ok (.iconst 0, 1) := by decide +kernel
theorem dX12_again_28 : decode cX12_again 28 = .ok (.istore_n 1, 1) := by decide +kernel
theorem dX12_again_29 : decode cX12_again 29 = .ok (.iload_n 1, 1) := by decide +kernel
theorem dX12_again_30 : decode cX12_again 30 = .ok (.aload_n 0, 1) := by decide +kernel
theorem dX12_again_31 : decode cX12_again 31 = .ok (.getfield 274, 3) := by decide +kernel
theorem dX12_again_34 : decode cX12_again 34 = .ok (.if_icmp .ge 21, 3) := by decide +kernel
theorem dX12_again_37 : decode cX12_again 37 = .ok (.aload_n 0, 1) := by decide +kernel
theorem dX12_again_38 : decode cX12_again 38 = .ok (.getfield 8, 3) := by decide +kernel
theorem dX12_again_41 : decode cX12_again 41 = .ok (.iload_n 1, 1) := by decide +kernel
theorem dX12_again_42 : decode cX12_again 42 = .ok (.aload_n 0, 1) := by decide +kernel
theorem dX12_again_43 : decode cX12_again 43 = .ok (.getfield 15, 3) := by decide +kernel
theorem dX12_again_46 : decode cX12_again 46 = .ok (.iload_n 1, 1) := by decide +kernel
theorem dX12_again_47 : decode cX12_again 47 = .ok (.baload, 1) := by decide +kernel
theorem dX12_again_48 : decode cX12_again 48 = .ok (.bastore, 1) := by decide +kernel
theorem dX12_again_49 : decode cX12_again 49 = .ok (.iinc 1 1, 3) := by decide +kernel
theorem dX12_again_52 : decode cX12_again 52 = .ok (.goto (-23), 3) := by decide +kernel
theorem dX12_again_55 : decode cX12_again 55 = .ok (.aload_n 0, 1) := by decide +kernel
theorem dX12_again_56 : decode cX12_again 56 = .ok (.getfield 274, 3) := by decide +kernel
theorem dX12_again_59 : decode cX12_again 59 = .ok (.ireturn, 1) := by decide +kernel
theorem dX12_fault_0 : decode cX12_fault 0 = .ok (.aload_n 0, 1) := by decide +kernel
theorem dX12_fault_1 : decode cX12_fault 1 = .ok (.iconst 0, 1) := by decide +kernel
theorem dX12_fault_2 : decode cX12_fault 2 = .ok (.putfield 271, 3) := by decide +kernel
theorem dX12_fault_5 : decode cX12_fault 5 = .ok (.aload_n 0, 1) := by decide +kernel
theorem dX12_fault_6 : decode cX12_fault 6 = .ok (.iload_n 1, 1) := by decide +kernel
theorem dX12_fault_7 : decode cX12_fault 7 = .ok (.i2l, 1) := by decide +kernel
theorem dX12_fault_8 : decode cX12_fault 8 = .ok (.lconst 0, 1) := by decide +kernel
theorem dX12_fault_9 : decode cX12_fault 9 = .ok (.lconst 1, 1) := by decide +kernel
theorem dX12_fault_10 : decode cX12_fault 10 = .ok (.invokestatic 287, 3) := by decide +kernel
theorem dX12_fault_13 : decode cX12_fault 13 = .ok (.ifCond .ne 7, 3) := by decide +kernel
theorem dX12_fault_16 : decode cX12_fault 16 = .ok (.iconst 1, 1) := by decide +kernel
theorem dX12_fault_17 : decode cX12_fault 17 = .ok (.goto 4, 3) := by decide +kernel
theorem dX12_fault_20 : decode cX12_fault 20 = .ok (.iconst 0, 1) := by decide +kernel
theorem dX12_fault_21 : decode cX12_fault 21 = .ok (.iconst 1, 1) := by decide +kernel
theorem dX12_fault_22 : decode cX12_fault 22 = .ok (.invokevirtual 277, 3) := by decide +kernel
theorem dX12_fault_25 : decode cX12_fault 25 = .ok (.ifCond .eq 5, 3) := by decide +kernel
theorem dX12_fault_28 : decode cX12_fault 28 = .ok (.iconst 0, 1) := by decide +kernel
theorem dX12_fault_29 : decode cX12_fault 29 = .ok (.ireturn, 1) := by decide +kernel
theorem dX12_fault_30 : decode cX12_fault 30 = .ok (.iload_n 1, 1) := by decide +kernel
theorem dX12_fault_31 : decode cX12_fault 31 = .ok (.ifCond .ne 10, 3) := by decide +kernel
theorem dX12_fault_34 : decode cX12_fault 34 = .ok (.aload_n 0, 1) := by decide +kernel
theorem dX12_fault_35 : decode cX12_fault 35 = .ok (.getfield 294, 3) := by decide +kernel
theorem dX12_fault_38 : decode cX12_fault 38 = .ok (.goto 7, 3) := by decide +kernel
theorem dX12_fault_41 : decode cX12_fault 41 = .ok (.aload_n 0, 1) := by decide +kernel
theorem dX12_fault_42 : decode cX12_fault 42 = .ok (.getfield 297, 3) := by decide +kernel
theorem dX12_fault_45 : decode cX12_fault 45 = .ok (.ireturn, 1) := by decide +kernel
theorem dX12_byteAt_0 : decode cX12_byteAt 0 = .ok (.aload_n 0, 1) := by decide +kernel
theorem dX12_byteAt_1 : decode cX12_byteAt 1 = .ok (.iconst 0, 1) := by decide +kernel
theorem dX12_byteAt_2 : decode cX12_byteAt 2 = .ok (.putfield 271, 3) := by decide +kernel
theorem dX12_byteAt_5 : decode cX12_byteAt 5 = .ok (.aload_n 0, 1) := by decide +kernel
theorem dX12_byteAt_6 : decode cX12_byteAt 6 = .ok (.iload_n 1, 1) := by decide +kernel
theorem dX12_byteAt_7 : decode cX12_byteAt 7 = .ok (.i2l, 1) := by decide +kernel
theorem dX12_byteAt_8 : decode cX12_byteAt 8 = .ok (.lconst 0, 1) := by decide +kernel
theorem dX12_byteAt_9 : decode cX12_byteAt 9 = .ok (.aload_n 0, 1) := by decide +kernel
theorem dX12_byteAt_10 : decode cX12_byteAt 10 = .ok (.getfield 291, 3) := by decide +kernel
theorem dX12_byteAt_13 : decode cX12_byteAt 13 = .ok (.iconst 1, 1) := by decide +kernel
theorem dX12_byteAt_14 : decode cX12_byteAt 14 = .ok (.isub, 1) := by decide +kernel
theorem dX12_byteAt_15 : decode cX12_byteAt 15 = .ok (.i2l, 1) := by decide +kernel
theorem dX12_byteAt_16 : decode cX12_byteAt 16 = .ok (.invokestatic 287, 3) := by decide +kernel
theorem dX12_byteAt_19 : decode cX12_byteAt 19 = .ok (.ifCond .ne 7, 3) := by decide +kernel
theorem dX12_byteAt_22 : decode cX12_byteAt 22 = .ok (.iconst 1, 1) := by decide +kernel
theorem dX12_byteAt_23 : decode cX12_byteAt 23 = .ok (.goto 4, 3) := by decide +kernel
theorem dX12_byteAt_26 : decode cX12_byteAt 26 = .ok (.iconst 0, 1) := by decide +kernel
theorem dX12_byteAt_27 : decode cX12_byteAt 27 = .ok (.iconst 1, 1) := by decide +kernel
theorem dX12_byteAt_28 : decode cX12_byteAt 28 = .ok (.invokevirtual 277, 3) := by decide +kernel
theorem dX12_byteAt_31 : decode cX12_byteAt 31 = .ok (.ifCond .eq 5, 3) := by decide +kernel
theorem dX12_byteAt_34 : decode cX12_byteAt 34 = .ok (.iconst 0, 1) := by decide +kernel
theorem dX12_byteAt_35 : decode cX12_byteAt 35 = .ok (.ireturn, 1) := by decide +kernel
theorem dX12_byteAt_36 : decode cX12_byteAt 36 = .ok (.aload_n 0, 1) := by decide +kernel
theorem dX12_byteAt_37 : decode cX12_byteAt 37 = .ok (.getfield 15, 3) := by decide +kernel
theorem dX12_byteAt_40 : decode cX12_byteAt 40 = .ok (.iload_n 1, 1) := by decide +kernel
theorem dX12_byteAt_41 : decode cX12_byteAt 41 = .ok (.baload, 1) := by decide +kernel
theorem dX12_byteAt_42 : decode cX12_byteAt 42 = .ok (.sipush 255, 3) := by decide +kernel
theorem dX12_byteAt_45 : decode cX12_byteAt 45 = .ok (.iand, 1) := by decide +kernel
theorem dX12_byteAt_46 : decode cX12_byteAt 46 = .ok (.ireturn, 1) := by decide +kernel
theorem dX12_wrong_0 : decode cX12_wrong 0 = .ok (.aload_n 0, 1) := by decide +kernel
theorem dX12_wrong_1 : decode cX12_wrong 1 = .ok (.iload_n 1, 1) := by decide +kernel
theorem dX12_wrong_2 : decode cX12_wrong 2 = .ok (.putfield 294, 3) := by decide +kernel
theorem dX12_wrong_5 : decode cX12_wrong 5 = .ok (.aload_n 0, 1) := by decide +kernel
theorem dX12_wrong_6 : decode cX12_wrong 6 = .ok (.iload_n 2, 1) := by decide +kernel
theorem dX12_wrong_7 : decode cX12_wrong 7 = .ok (.putfield 297, 3) := by decide +kernel
theorem dX12_wrong_10 : decode cX12_wrong 10 = .ok (.iconst 0, 1) := by decide +kernel
theorem dX12_wrong_11 : decode cX12_wrong 11 = .ok (.ireturn, 1) := by decide +kernel
theorem dX12_here_0 : decode cX12_here 0 = .ok (.aload_n 0, 1) := by decide +kernel
theorem dX12_here_1 : decode cX12_here 1 = .ok (.getfield 300, 3) := by decide +kernel
theorem dX12_here_4 : decode cX12_here 4 = .ok (.aload_n 0, 1) := by decide +kernel
theorem dX12_here_5 : decode cX12_here 5 = .ok (.getfield 303, 3) := by decide +kernel
theorem dX12_here_8 : decode cX12_here 8 = .ok (.if_icmp .ge 19, 3) := by decide +kernel
theorem dX12_here_11 : decode cX12_here 11 = .ok (.aload_n 0, 1) := by decide +kernel
theorem dX12_here_12 : decode cX12_here 12 = .ok (.getfield 8, 3) := by decide +kernel
theorem dX12_here_15 : decode cX12_here 15 = .ok (.aload_n 0, 1) := by decide +kernel
theorem dX12_here_16 : decode cX12_here 16 = .ok (.getfield 300, 3) := by decide +kernel
theorem dX12_here_19 : decode cX12_here 19 = .ok (.baload, 1) := by decide +kernel
theorem dX12_here_20 : decode cX12_here 20 = .ok (.sipush 255, 3) := by decide +kernel
theorem dX12_here_23 : decode cX12_here 23 = .ok (.iand, 1) := by decide +kernel
theorem dX12_here_24 : decode cX12_here 24 = .ok (.goto 4, 3) := by decide +kernel
theorem dX12_here_27 : decode cX12_here 27 = .ok (.iconst (-1), 1) := by decide +kernel
theorem dX12_here_28 : decode cX12_here 28 = .ok (.ireturn, 1) := by decide +kernel
theorem dX12_isBlank_0 : decode cX12_isBlank 0 = .ok (.iload_n 0, 1) := by decide +kernel
theorem dX12_isBlank_1 : decode cX12_isBlank 1 = .ok (.bipush 32, 2) := by decide +kernel
theorem dX12_isBlank_3 : decode cX12_isBlank 3 = .ok (.if_icmp .eq 21, 3) := by decide +kernel
theorem dX12_isBlank_6 : decode cX12_isBlank 6 = .ok (.iload_n 0, 1) := by decide +kernel
theorem dX12_isBlank_7 : decode cX12_isBlank 7 = .ok (.bipush 9, 2) := by decide +kernel
theorem dX12_isBlank_9 : decode cX12_isBlank 9 = .ok (.if_icmp .eq 15, 3) := by decide +kernel
theorem dX12_isBlank_12 : decode cX12_isBlank 12 = .ok (.iload_n 0, 1) := by decide +kernel
theorem dX12_isBlank_13 : decode cX12_isBlank 13 = .ok (.bipush 10, 2) := by decide +kernel
theorem dX12_isBlank_15 : decode cX12_isBlank 15 = .ok (.if_icmp .eq 9, 3) := by decide +kernel
theorem dX12_isBlank_18 : decode cX12_isBlank 18 = .ok (.iload_n 0, 1) := by decide +kernel
theorem dX12_isBlank_19 : decode cX12_isBlank 19 = .ok (.bipush 13, 2) := by decide +kernel
theorem dX12_isBlank_21 : decode cX12_isBlank 21 = .ok (.if_icmp .ne 7, 3) := by decide +kernel
theorem dX12_isBlank_24 : decode cX12_isBlank 24 = .ok (.iconst 1, 1) := by decide +kernel
theorem dX12_isBlank_25 : decode cX12_isBlank 25 = .ok (.goto 4, 3) := by decide +kernel
theorem dX12_isBlank_28 : decode cX12_isBlank 28 = .ok (.iconst 0, 1) := by decide +kernel
theorem dX12_isBlank_29 : decode cX12_isBlank 29 = .ok (.ireturn, 1) := by decide +kernel
theorem dX12_isLetter_0 : decode cX12_isLetter 0 = .ok (.iload_n 0, 1) := by decide +kernel
theorem dX12_isLetter_1 : decode cX12_isLetter 1 = .ok (.bipush 97, 2) := by decide +kernel
theorem dX12_isLetter_3 : decode cX12_isLetter 3 = .ok (.if_icmp .lt 9, 3) := by decide +kernel
theorem dX12_isLetter_6 : decode cX12_isLetter 6 = .ok (.iload_n 0, 1) := by decide +kernel
theorem dX12_isLetter_7 : decode cX12_isLetter 7 = .ok (.bipush 122, 2) := by decide +kernel
theorem dX12_isLetter_9 : decode cX12_isLetter 9 = .ok (.if_icmp .le 15, 3) := by decide +kernel
theorem dX12_isLetter_12 : decode cX12_isLetter 12 = .ok (.iload_n 0, 1) := by decide +kernel
theorem dX12_isLetter_13 : decode cX12_isLetter 13 = .ok (.bipush 65, 2) := by decide +kernel
theorem dX12_isLetter_15 : decode cX12_isLetter 15 = .ok (.if_icmp .lt 13, 3) := by decide +kernel
theorem dX12_isLetter_18 : decode cX12_isLetter 18 = .ok (.iload_n 0, 1) := by decide +kernel
theorem dX12_isLetter_19 : decode cX12_isLetter 19 = .ok (.bipush 90, 2) := by decide +kernel
theorem dX12_isLetter_21 : decode cX12_isLetter 21 = .ok (.if_icmp .gt 7, 3) := by decide +kernel
theorem dX12_isLetter_24 : decode cX12_isLetter 24 = .ok (.iconst 1, 1) := by decide +kernel
theorem dX12_isLetter_25 : decode cX12_isLetter 25 = .ok (.goto 4, 3) := by decide +kernel
theorem dX12_isLetter_28 : decode cX12_isLetter 28 = .ok (.iconst 0, 1) := by decide +kernel
theorem dX12_isLetter_29 : decode cX12_isLetter 29 = .ok (.ireturn, 1) := by decide +kernel
theorem dX12_isDigit_0 : decode cX12_isDigit 0 = .ok (.iload_n 0, 1) := by decide +kernel
theorem dX12_isDigit_1 : decode cX12_isDigit 1 = .ok (.bipush 48, 2) := by decide +kernel
theorem dX12_isDigit_3 : decode cX12_isDigit 3 = .ok (.if_icmp .lt 13, 3) := by decide +kernel
theorem dX12_isDigit_6 : decode cX12_isDigit 6 = .ok (.iload_n 0, 1) := by decide +kernel
theorem dX12_isDigit_7 : decode cX12_isDigit 7 = .ok (.bipush 57, 2) := by decide +kernel
theorem dX12_isDigit_9 : decode cX12_isDigit 9 = .ok (.if_icmp .gt 7, 3) := by decide +kernel
theorem dX12_isDigit_12 : decode cX12_isDigit 12 = .ok (.iconst 1, 1) := by decide +kernel
theorem dX12_isDigit_13 : decode cX12_isDigit 13 = .ok (.goto 4, 3) := by decide +kernel
theorem dX12_isDigit_16 : decode cX12_isDigit 16 = .ok (.iconst 0, 1) := by decide +kernel
theorem dX12_isDigit_17 : decode cX12_isDigit 17 = .ok (.ireturn, 1) := by decide +kernel
theorem dX12_isSign_0 : decode cX12_isSign 0 = .ok (.iload_n 0, 1) := by decide +kernel
theorem dX12_isSign_1 : decode cX12_isSign 1 = .ok (.bipush 43, 2) := by decide +kernel
theorem dX12_isSign_3 : decode cX12_isSign 3 = .ok (.if_icmp .eq 9, 3) := by decide +kernel
theorem dX12_isSign_6 : decode cX12_isSign 6 = .ok (.iload_n 0, 1) := by decide +kernel
theorem dX12_isSign_7 : decode cX12_isSign 7 = .ok (.bipush 45, 2) := by decide +kernel
theorem dX12_isSign_9 : decode cX12_isSign 9 = .ok (.if_icmp .ne 7, 3) := by decide +kernel
theorem dX12_isSign_12 : decode cX12_isSign 12 = .ok (.iconst 1, 1) := by decide +kernel
theorem dX12_isSign_13 : decode cX12_isSign 13 = .ok (.goto 4, 3) := by decide +kernel
theorem dX12_isSign_16 : decode cX12_isSign 16 = .ok (.iconst 0, 1) := by decide +kernel
theorem dX12_isSign_17 : decode cX12_isSign 17 = .ok (.ireturn, 1) := by decide +kernel
theorem dX12_skip_0 : decode cX12_skip 0 = .ok (.aload_n 0, 1) := by decide +kernel
theorem dX12_skip_1 : decode cX12_skip 1 = .ok (.invokevirtual 306, 3) := by decide +kernel
theorem dX12_skip_4 : decode cX12_skip 4 = .ok (.invokestatic 310, 3) := by decide +kernel
theorem dX12_skip_7 : decode cX12_skip 7 = .ok (.ifCond .eq 16, 3) := by decide +kernel
theorem dX12_skip_10 : decode cX12_skip 10 = .ok (.aload_n 0, 1) := by decide +kernel
theorem dX12_skip_11 : decode cX12_skip 11 = .ok (.dup, 1) := by decide +kernel
theorem dX12_skip_12 : decode cX12_skip 12 = .ok (.getfield 300, 3) := by decide +kernel
theorem dX12_skip_15 : decode cX12_skip 15 = .ok (.iconst 1, 1) := by decide +kernel
theorem dX12_skip_16 : decode cX12_skip 16 = .ok (.iadd, 1) := by decide +kernel
theorem dX12_skip_17 : decode cX12_skip 17 = .ok (.putfield 300, 3) := by decide +kernel
theorem dX12_skip_20 : decode cX12_skip 20 = .ok (.goto (-20), 3) := by decide +kernel
theorem dX12_skip_23 : decode cX12_skip 23 = .ok (.return_, 1) := by decide +kernel
theorem dX12_strange_0 : decode cX12_strange 0 = .ok (.aload_n 0, 1) := by decide +kernel
theorem dX12_strange_1 : decode cX12_strange 1 = .ok (.invokevirtual 306, 3) := by decide +kernel
theorem dX12_strange_4 : decode cX12_strange 4 = .ok (.istore_n 2, 1) := by decide +kernel
theorem dX12_strange_5 : decode cX12_strange 5 = .ok (.iload_n 2, 1) := by decide +kernel
theorem dX12_strange_6 : decode cX12_strange 6 = .ok (.iconst (-1), 1) := by decide +kernel
theorem dX12_strange_7 : decode cX12_strange 7 = .ok (.if_icmp .eq 28, 3) := by decide +kernel
theorem dX12_strange_10 : decode cX12_strange 10 = .ok (.iload_n 2, 1) := by decide +kernel
theorem dX12_strange_11 : decode cX12_strange 11 = .ok (.invokestatic 314, 3) := by decide +kernel
theorem dX12_strange_14 : decode cX12_strange 14 = .ok (.ifCond .eq 21, 3) := by decide +kernel
theorem dX12_strange_17 : decode cX12_strange 17 = .ok (.aload_n 0, 1) := by decide +kernel
theorem dX12_strange_18 : decode cX12_strange 18 = .ok (.iload_n 1, 1) := by decide +kernel
theorem dX12_strange_19 : decode cX12_strange 19 = .ok (.ifCond .eq 7, 3) := by decide +kernel
theorem dX12_strange_22 : decode cX12_strange 22 = .ok (.iconst 2, 1) := by decide +kernel
theorem dX12_strange_23 : decode cX12_strange 23 = .ok (.goto 4, 3) := by decide +kernel
theorem dX12_strange_26 : decode cX12_strange 26 = .ok (.iconst 3, 1) := by decide +kernel
theorem dX12_strange_27 : decode cX12_strange 27 = .ok (.aload_n 0, 1) := by decide +kernel
theorem dX12_strange_28 : decode cX12_strange 28 = .ok (.getfield 300, 3) := by decide +kernel
theorem dX12_strange_31 : decode cX12_strange 31 = .ok (.invokevirtual 317, 3) := by decide +kernel
theorem dX12_strange_34 : decode cX12_strange 34 = .ok (.ireturn, 1) := by decide +kernel
theorem dX12_strange_35 : decode cX12_strange 35 = .ok (.iload_n 2, 1) := by decide +kernel
theorem dX12_strange_36 : decode cX12_strange 36 = .ok (.iconst (-1), 1) := by decide +kernel
theorem dX12_strange_37 : decode cX12_strange 37 = .ok (.if_icmp .eq 41, 3) := by decide +kernel
theorem dX12_strange_40 : decode cX12_strange 40 = .ok (.iload_n 2, 1) := by decide +kernel
theorem dX12_strange_41 : decode cX12_strange 41 = .ok (.invokestatic 321, 3) := by decide +kernel
theorem dX12_strange_44 : decode cX12_strange 44 = .ok (.ifCond .ne 34, 3) := by decide +kernel
theorem dX12_strange_47 : decode cX12_strange 47 = .ok (.iload_n 2, 1) := by decide +kernel
theorem dX12_strange_48 : decode cX12_strange 48 = .ok (.invokestatic 324, 3) := by decide +kernel
theorem dX12_strange_51 : decode cX12_strange 51 = .ok (.ifCond .ne 27, 3) := by decide +kernel
theorem dX12_strange_54 : decode cX12_strange 54 = .ok (.iload_n 2, 1) := by decide +kernel
theorem dX12_strange_55 : decode cX12_strange 55 = .ok (.bipush 46, 2) := by decide +kernel
theorem dX12_strange_57 : decode cX12_strange 57 = .ok (.if_icmp .eq 21, 3) := by decide +kernel
theorem dX12_strange_60 : decode cX12_strange 60 = .ok (.iload_n 2, 1) := by decide +kernel
theorem dX12_strange_61 : decode cX12_strange 61 = .ok (.bipush 40, 2) := by decide +kernel
theorem dX12_strange_63 : decode cX12_strange 63 = .ok (.if_icmp .eq 15, 3) := by decide +kernel
theorem dX12_strange_66 : decode cX12_strange 66 = .ok (.iload_n 2, 1) := by decide +kernel
theorem dX12_strange_67 : decode cX12_strange 67 = .ok (.bipush 41, 2) := by decide +kernel
theorem dX12_strange_69 : decode cX12_strange 69 = .ok (.if_icmp .eq 9, 3) := by decide +kernel
theorem dX12_strange_72 : decode cX12_strange 72 = .ok (.iload_n 2, 1) := by decide +kernel
theorem dX12_strange_73 : decode cX12_strange 73 = .ok (.bipush 44, 2) := by decide +kernel
theorem dX12_strange_75 : decode cX12_strange 75 = .ok (.if_icmp .ne 7, 3) := by decide +kernel
theorem dX12_strange_78 : decode cX12_strange 78 = .ok (.iconst 1, 1) := by decide +kernel
theorem dX12_strange_79 : decode cX12_strange 79 = .ok (.goto 4, 3) := by decide +kernel
theorem dX12_strange_82 : decode cX12_strange 82 = .ok (.iconst 0, 1) := by decide +kernel
theorem dX12_strange_83 : decode cX12_strange 83 = .ok (.istore_n 3, 1) := by decide +kernel
theorem dX12_strange_84 : decode cX12_strange 84 = .ok (.aload_n 0, 1) := by decide +kernel
theorem dX12_strange_85 : decode cX12_strange 85 = .ok (.iload_n 3, 1) := by decide +kernel
theorem dX12_strange_86 : decode cX12_strange 86 = .ok (.ifCond .eq 7, 3) := by decide +kernel
theorem dX12_strange_89 : decode cX12_strange 89 = .ok (.iconst 3, 1) := by decide +kernel
theorem dX12_strange_90 : decode cX12_strange 90 = .ok (.goto 4, 3) := by decide +kernel
theorem dX12_strange_93 : decode cX12_strange 93 = .ok (.iconst 1, 1) := by decide +kernel
theorem dX12_strange_94 : decode cX12_strange 94 = .ok (.aload_n 0, 1) := by decide +kernel
theorem dX12_strange_95 : decode cX12_strange 95 = .ok (.getfield 300, 3) := by decide +kernel
theorem dX12_strange_98 : decode cX12_strange 98 = .ok (.invokevirtual 317, 3) := by decide +kernel
theorem dX12_strange_101 : decode cX12_strange 101 = .ok (.ireturn, 1) := by decide +kernel
theorem dX12_large_0 : decode cX12_large 0 = .ok (.iload_n 0, 1) := by decide +kernel
theorem dX12_large_1 : decode cX12_large 1 = .ok (.bipush 97, 2) := by decide +kernel
theorem dX12_large_3 : decode cX12_large 3 = .ok (.if_icmp .lt 16, 3) := by decide +kernel
theorem dX12_large_6 : decode cX12_large 6 = .ok (.iload_n 0, 1) := by decide +kernel
theorem dX12_large_7 : decode cX12_large 7 = .ok (.bipush 122, 2) := by decide +kernel
theorem dX12_large_9 : decode cX12_large 9 = .ok (.if_icmp .gt 10, 3) := by decide +kernel
theorem dX12_large_12 : decode cX12_large 12 = .ok (.iload_n 0, 1) := by decide +kernel
theorem dX12_large_13 : decode cX12_large 13 = .ok (.bipush 32, 2) := by decide +kernel
theorem dX12_large_15 : decode cX12_large 15 = .ok (.isub, 1) := by decide +kernel
theorem dX12_large_16 : decode cX12_large 16 = .ok (.goto 4, 3) := by decide +kernel
theorem dX12_large_19 : decode cX12_large 19 = .ok (.iload_n 0, 1) := by decide +kernel
theorem dX12_large_20 : decode cX12_large 20 = .ok (.ireturn, 1) := by decide +kernel
theorem dX12_isWord_0 : decode cX12_isWord 0 = .ok (.aload_n 0, 1) := by decide +kernel
theorem dX12_isWord_1 : decode cX12_isWord 1 = .ok (.getfield 300, 3) := by decide +kernel
theorem dX12_isWord_4 : decode cX12_isWord 4 = .ok (.iload_n 1, 1) := by decide +kernel
theorem dX12_isWord_5 : decode cX12_isWord 5 = .ok (.isub, 1) := by decide +kernel
theorem dX12_isWord_6 : decode cX12_isWord 6 = .ok (.iload_n 3, 1) := by decide +kernel
theorem dX12_isWord_7 : decode cX12_isWord 7 = .ok (.iload_n 2, 1) := by decide +kernel
theorem dX12_isWord_8 : decode cX12_isWord 8 = .ok (.isub, 1) := by decide +kernel
theorem dX12_isWord_9 : decode cX12_isWord 9 = .ok (.if_icmp .ne 7, 3) := by decide +kernel
theorem dX12_isWord_12 : decode cX12_isWord 12 = .ok (.iconst 1, 1) := by decide +kernel
theorem dX12_isWord_13 : decode cX12_isWord 13 = .ok (.goto 4, 3) := by decide +kernel
theorem dX12_isWord_16 : decode cX12_isWord 16 = .ok (.iconst 0, 1) := by decide +kernel
theorem dX12_isWord_17 : decode cX12_isWord 17 = .ok (.istore 4, 2) := by decide +kernel
theorem dX12_isWord_19 : decode cX12_isWord 19 = .ok (.iconst 0, 1) := by decide +kernel
theorem dX12_isWord_20 : decode cX12_isWord 20 = .ok (.istore 5, 2) := by decide +kernel
theorem dX12_isWord_22 : decode cX12_isWord 22 = .ok (.iload 5, 2) := by decide +kernel
theorem dX12_isWord_24 : decode cX12_isWord 24 = .ok (.iload_n 3, 1) := by decide +kernel
theorem dX12_isWord_25 : decode cX12_isWord 25 = .ok (.iload_n 2, 1) := by decide +kernel
theorem dX12_isWord_26 : decode cX12_isWord 26 = .ok (.isub, 1) := by decide +kernel
theorem dX12_isWord_27 : decode cX12_isWord 27 = .ok (.if_icmp .ge 46, 3) := by decide +kernel
theorem dX12_isWord_30 : decode cX12_isWord 30 = .ok (.iload 4, 2) := by decide +kernel
theorem dX12_isWord_32 : decode cX12_isWord 32 = .ok (.ifCond .eq 41, 3) := by decide +kernel
theorem dX12_isWord_35 : decode cX12_isWord 35 = .ok (.aload_n 0, 1) := by decide +kernel
theorem dX12_isWord_36 : decode cX12_isWord 36 = .ok (.getfield 8, 3) := by decide +kernel
theorem dX12_isWord_39 : decode cX12_isWord 39 = .ok (.iload_n 1, 1) := by decide +kernel
theorem dX12_isWord_40 : decode cX12_isWord 40 = .ok (.iload 5, 2) := by decide +kernel
theorem dX12_isWord_42 : decode cX12_isWord 42 = .ok (.iadd, 1) := by decide +kernel
theorem dX12_isWord_43 : decode cX12_isWord 43 = .ok (.baload, 1) := by decide +kernel
theorem dX12_isWord_44 : decode cX12_isWord 44 = .ok (.invokestatic 327, 3) := by decide +kernel
theorem dX12_isWord_47 : decode cX12_isWord 47 = .ok (.ldc_w 331, 3) := by decide +kernel
theorem dX12_isWord_50 : decode cX12_isWord 50 = .ok (.iload_n 2, 1) := by decide +kernel
theorem dX12_isWord_51 : decode cX12_isWord 51 = .ok (.iload 5, 2) := by decide +kernel
theorem dX12_isWord_53 : decode cX12_isWord 53 = .ok (.iadd, 1) := by decide +kernel
theorem dX12_isWord_54 : decode cX12_isWord 54 = .ok (.invokevirtual 333, 3) := by decide +kernel
theorem dX12_isWord_57 : decode cX12_isWord 57 = .ok (.if_icmp .ne 7, 3) := by decide +kernel
theorem dX12_isWord_60 : decode cX12_isWord 60 = .ok (.iconst 1, 1) := by decide +kernel
theorem dX12_isWord_61 : decode cX12_isWord 61 = .ok (.goto 4, 3) := by decide +kernel
theorem dX12_isWord_64 : decode cX12_isWord 64 = .ok (.iconst 0, 1) := by decide +kernel
theorem dX12_isWord_65 : decode cX12_isWord 65 = .ok (.istore 4, 2) := by decide +kernel
theorem dX12_isWord_67 : decode cX12_isWord 67 = .ok (.iinc 5 1, 3) := by decide +kernel
theorem dX12_isWord_70 : decode cX12_isWord 70 = .ok (.goto (-48), 3) := by decide +kernel
theorem dX12_isWord_73 : decode cX12_isWord 73 = .ok (.iload 4, 2) := by decide +kernel
theorem dX12_isWord_75 : decode cX12_isWord 75 = .ok (.ireturn, 1) := by decide +kernel
theorem dX12_word_0 : decode cX12_word 0 = .ok (.aload_n 0, 1) := by decide +kernel
theorem dX12_word_1 : decode cX12_word 1 = .ok (.getfield 300, 3) := by decide +kernel
theorem dX12_word_4 : decode cX12_word 4 = .ok (.istore_n 1, 1) := by decide +kernel
theorem dX12_word_5 : decode cX12_word 5 = .ok (.aload_n 0, 1) := by decide +kernel
theorem dX12_word_6 : decode cX12_word 6 = .ok (.invokevirtual 306, 3) := by decide +kernel
theorem dX12_word_9 : decode cX12_word 9 = .ok (.iconst (-1), 1) := by decide +kernel
theorem dX12_word_10 : decode cX12_word 10 = .ok (.if_icmp .eq 26, 3) := by decide +kernel
theorem dX12_word_13 : decode cX12_word 13 = .ok (.aload_n 0, 1) := by decide +kernel
theorem dX12_word_14 : decode cX12_word 14 = .ok (.invokevirtual 306, 3) := by decide +kernel
theorem dX12_word_17 : decode cX12_word 17 = .ok (.invokestatic 314, 3) := by decide +kernel
theorem dX12_word_20 : decode cX12_word 20 = .ok (.ifCond .eq 16, 3) := by decide +kernel
theorem dX12_word_23 : decode cX12_word 23 = .ok (.aload_n 0, 1) := by decide +kernel
theorem dX12_word_24 : decode cX12_word 24 = .ok (.dup, 1) := by decide +kernel
theorem dX12_word_25 : decode cX12_word 25 = .ok (.getfield 300, 3) := by decide +kernel
theorem dX12_word_28 : decode cX12_word 28 = .ok (.iconst 1, 1) := by decide +kernel
theorem dX12_word_29 : decode cX12_word 29 = .ok (.iadd, 1) := by decide +kernel
theorem dX12_word_30 : decode cX12_word 30 = .ok (.putfield 300, 3) := by decide +kernel
theorem dX12_word_33 : decode cX12_word 33 = .ok (.goto (-28), 3) := by decide +kernel
theorem dX12_word_36 : decode cX12_word 36 = .ok (.iconst 0, 1) := by decide +kernel
theorem dX12_word_37 : decode cX12_word 37 = .ok (.istore_n 2, 1) := by decide +kernel
theorem dX12_word_38 : decode cX12_word 38 = .ok (.iconst 0, 1) := by decide +kernel
theorem dX12_word_39 : decode cX12_word 39 = .ok (.istore_n 3, 1) := by decide +kernel
theorem dX12_word_40 : decode cX12_word 40 = .ok (.iconst 0, 1) := by decide +kernel
theorem dX12_word_41 : decode cX12_word 41 = .ok (.istore 4, 2) := by decide +kernel
theorem dX12_word_43 : decode cX12_word 43 = .ok (.iload 4, 2) := by decide +kernel
theorem dX12_word_45 : decode cX12_word 45 = .ok (.ldc_w 331, 3) := by decide +kernel
theorem dX12_word_48 : decode cX12_word 48 = .ok (.invokevirtual 339, 3) := by decide +kernel
theorem dX12_word_51 : decode cX12_word 51 = .ok (.if_icmp .ge 46, 3) := by decide +kernel
theorem dX12_word_54 : decode cX12_word 54 = .ok (.ldc_w 331, 3) := by decide +kernel
theorem dX12_word_57 : decode cX12_word 57 = .ok (.iload 4, 2) := by decide +kernel
theorem dX12_word_59 : decode cX12_word 59 = .ok (.invokevirtual 333, 3) := by decide +kernel
theorem dX12_word_62 : decode cX12_word 62 = .ok (.bipush 32, 2) := by decide +kernel
theorem dX12_word_64 : decode cX12_word 64 = .ok (.if_icmp .eq 6, 3) := by decide +kernel
theorem dX12_word_67 : decode cX12_word 67 = .ok (.goto 24, 3) := by decide +kernel
theorem dX12_word_70 : decode cX12_word 70 = .ok (.iinc 3 1, 3) := by decide +kernel
theorem dX12_word_73 : decode cX12_word 73 = .ok (.aload_n 0, 1) := by decide +kernel
theorem dX12_word_74 : decode cX12_word 74 = .ok (.iload_n 1, 1) := by decide +kernel
theorem dX12_word_75 : decode cX12_word 75 = .ok (.iload_n 2, 1) := by decide +kernel
theorem dX12_word_76 : decode cX12_word 76 = .ok (.iload 4, 2) := by decide +kernel
theorem dX12_word_78 : decode cX12_word 78 = .ok (.invokevirtual 342, 3) := by decide +kernel
theorem dX12_word_81 : decode cX12_word 81 = .ok (.ifCond .eq 5, 3) := by decide +kernel
theorem dX12_word_84 : decode cX12_word 84 = .ok (.iload_n 3, 1) := by decide +kernel
theorem dX12_word_85 : decode cX12_word 85 = .ok (.ireturn, 1) := by decide +kernel
theorem dX12_word_86 : decode cX12_word 86 = .ok (.iload 4, 2) := by decide +kernel
theorem dX12_word_88 : decode cX12_word 88 = .ok (.iconst 1, 1) := by decide +kernel
theorem dX12_word_89 : decode cX12_word 89 = .ok (.iadd, 1) := by decide +kernel
theorem dX12_word_90 : decode cX12_word 90 = .ok (.istore_n 2, 1) := by decide +kernel
theorem dX12_word_91 : decode cX12_word 91 = .ok (.iinc 4 1, 3) := by decide +kernel
theorem dX12_word_94 : decode cX12_word 94 = .ok (.goto (-51), 3) := by decide +kernel
theorem dX12_word_97 : decode cX12_word 97 = .ok (.iconst 0, 1) := by decide +kernel
theorem dX12_word_98 : decode cX12_word 98 = .ok (.ireturn, 1) := by decide +kernel
theorem dX12_emptyWord_0 : decode cX12_emptyWord 0 = .ok (.aload_n 0, 1) := by decide +kernel
theorem dX12_emptyWord_1 : decode cX12_emptyWord 1 = .ok (.getfield 300, 3) := by decide +kernel
theorem dX12_emptyWord_4 : decode cX12_emptyWord 4 = .ok (.istore_n 1, 1) := by decide +kernel
theorem dX12_emptyWord_5 : decode cX12_emptyWord 5 = .ok (.aload_n 0, 1) := by decide +kernel
theorem dX12_emptyWord_6 : decode cX12_emptyWord 6 = .ok (.invokevirtual 346, 3) := by decide +kernel
theorem dX12_emptyWord_9 : decode cX12_emptyWord 9 = .ok (.bipush 8, 2) := by decide +kernel
theorem dX12_emptyWord_11 : decode cX12_emptyWord 11 = .ok (.if_icmp .eq 12, 3) := by decide +kernel
theorem dX12_emptyWord_14 : decode cX12_emptyWord 14 = .ok (.aload_n 0, 1) := by decide +kernel
theorem dX12_emptyWord_15 : decode cX12_emptyWord 15 = .ok (.iconst 2, 1) := by decide +kernel
theorem dX12_emptyWord_16 : decode cX12_emptyWord 16 = .ok (.iload_n 1, 1) := by decide +kernel
theorem dX12_emptyWord_17 : decode cX12_emptyWord 17 = .ok (.invokevirtual 317, 3) := by decide +kernel
theorem dX12_emptyWord_20 : decode cX12_emptyWord 20 = .ok (.ifCond .eq 7, 3) := by decide +kernel
theorem dX12_emptyWord_23 : decode cX12_emptyWord 23 = .ok (.iconst 1, 1) := by decide +kernel
theorem dX12_emptyWord_24 : decode cX12_emptyWord 24 = .ok (.goto 4, 3) := by decide +kernel
theorem dX12_emptyWord_27 : decode cX12_emptyWord 27 = .ok (.iconst 0, 1) := by decide +kernel
theorem dX12_emptyWord_28 : decode cX12_emptyWord 28 = .ok (.ireturn, 1) := by decide +kernel
theorem dX12_pair_0 : decode cX12_pair 0 = .ok (.aload_n 0, 1) := by decide +kernel
theorem dX12_pair_1 : decode cX12_pair 1 = .ok (.invokevirtual 349, 3) := by decide +kernel
theorem dX12_pair_4 : decode cX12_pair 4 = .ok (.aload_n 0, 1) := by decide +kernel
theorem dX12_pair_5 : decode cX12_pair 5 = .ok (.getfield 18, 3) := by decide +kernel
theorem dX12_pair_8 : decode cX12_pair 8 = .ok (.bipush 32, 2) := by decide +kernel
theorem dX12_pair_10 : decode cX12_pair 10 = .ok (.iaload, 1) := by decide +kernel
theorem dX12_pair_11 : decode cX12_pair 11 = .ok (.iconst 2, 1) := by decide +kernel
theorem dX12_pair_12 : decode cX12_pair 12 = .ok (.iadd, 1) := by decide +kernel
theorem dX12_pair_13 : decode cX12_pair 13 = .ok (.sipush 2048, 3) := by decide +kernel
theorem dX12_pair_16 : decode cX12_pair 16 = .ok (.if_icmp .le 14, 3) := by decide +kernel
theorem dX12_pair_19 : decode cX12_pair 19 = .ok (.aload_n 0, 1) := by decide +kernel
theorem dX12_pair_20 : decode cX12_pair 20 = .ok (.bipush 7, 2) := by decide +kernel
theorem dX12_pair_22 : decode cX12_pair 22 = .ok (.aload_n 0, 1) := by decide +kernel
theorem dX12_pair_23 : decode cX12_pair 23 = .ok (.getfield 300, 3) := by decide +kernel
theorem dX12_pair_26 : decode cX12_pair 26 = .ok (.invokevirtual 317, 3) := by decide +kernel
theorem dX12_pair_29 : decode cX12_pair 29 = .ok (.ireturn, 1) := by decide +kernel
theorem dX12_pair_30 : decode cX12_pair 30 = .ok (.aload_n 0, 1) := by decide +kernel
theorem dX12_pair_31 : decode cX12_pair 31 = .ok (.iload_n 1, 1) := by decide +kernel
theorem dX12_pair_32 : decode cX12_pair 32 = .ok (.invokevirtual 352, 3) := by decide +kernel
theorem dX12_pair_35 : decode cX12_pair 35 = .ok (.aload_n 0, 1) := by decide +kernel
theorem dX12_pair_36 : decode cX12_pair 36 = .ok (.iconst 0, 1) := by decide +kernel
theorem dX12_pair_37 : decode cX12_pair 37 = .ok (.invokevirtual 352, 3) := by decide +kernel
theorem dX12_pair_40 : decode cX12_pair 40 = .ok (.iconst 1, 1) := by decide +kernel
theorem dX12_pair_41 : decode cX12_pair 41 = .ok (.ireturn, 1) := by decide +kernel
theorem dX12_more_0 : decode cX12_more 0 = .ok (.aload_n 0, 1) := by decide +kernel
theorem dX12_more_1 : decode cX12_more 1 = .ok (.getfield 23, 3) := by decide +kernel
theorem dX12_more_4 : decode cX12_more 4 = .ok (.ldc 7, 2) := by decide +kernel
theorem dX12_more_6 : decode cX12_more 6 = .ok (.iload_n 1, 1) := by decide +kernel
theorem dX12_more_7 : decode cX12_more 7 = .ok (.iadd, 1) := by decide +kernel
theorem dX12_more_8 : decode cX12_more 8 = .ok (.dup2, 1) := by decide +kernel
theorem dX12_more_9 : decode cX12_more 9 = .ok (.iaload, 1) := by decide +kernel
theorem dX12_more_10 : decode cX12_more 10 = .ok (.iconst 1, 1) := by decide +kernel
theorem dX12_more_11 : decode cX12_more 11 = .ok (.iadd, 1) := by decide +kernel
theorem dX12_more_12 : decode cX12_more 12 = .ok (.iastore, 1) := by decide +kernel
theorem dX12_more_13 : decode cX12_more 13 = .ok (.return_, 1) := by decide +kernel
theorem dX12_words_0 : decode cX12_words 0 = .ok (.aload_n 0, 1) := by decide +kernel
theorem dX12_words_1 : decode cX12_words 1 = .ok (.iconst 0, 1) := by decide +kernel
theorem dX12_words_2 : decode cX12_words 2 = .ok (.putfield 300, 3) := by decide +kernel
theorem dX12_words_5 : decode cX12_words 5 = .ok (.aload_n 0, 1) := by decide +kernel
theorem dX12_words_6 : decode cX12_words 6 = .ok (.iconst 0, 1) := by decide +kernel
theorem dX12_words_7 : decode cX12_words 7 = .ok (.putfield 355, 3) := by decide +kernel
theorem dX12_words_10 : decode cX12_words 10 = .ok (.aload_n 0, 1) := by decide +kernel
theorem dX12_words_11 : decode cX12_words 11 = .ok (.bipush 32, 2) := by decide +kernel
theorem dX12_words_13 : decode cX12_words 13 = .ok (.invokevirtual 358, 3) := by decide +kernel
theorem dX12_words_16 : decode cX12_words 16 = .ok (.iconst 1, 1) := by decide +kernel
theorem dX12_words_17 : decode cX12_words 17 = .ok (.istore_n 1, 1) := by decide +kernel
theorem dX12_words_18 : decode cX12_words 18 = .ok (.iconst 1, 1) := by decide +kernel
theorem dX12_words_19 : decode cX12_words 19 = .ok (.istore_n 2, 1) := by decide +kernel
theorem dX12_words_20 : decode cX12_words 20 = .ok (.iload_n 1, 1) := by decide +kernel
theorem dX12_words_21 : decode cX12_words 21 = .ok (.ifCond .eq 112, 3) := by decide +kernel
theorem dX12_words_24 : decode cX12_words 24 = .ok (.iload_n 2, 1) := by decide +kernel
theorem dX12_words_25 : decode cX12_words 25 = .ok (.ifCond .ne 10, 3) := by decide +kernel
theorem dX12_words_28 : decode cX12_words 28 = .ok (.aload_n 0, 1) := by decide +kernel
theorem dX12_words_29 : decode cX12_words 29 = .ok (.getfield 355, 3) := by decide +kernel
theorem dX12_words_32 : decode cX12_words 32 = .ok (.ifCond .le 101, 3) := by decide +kernel
theorem dX12_words_35 : decode cX12_words 35 = .ok (.iload_n 2, 1) := by decide +kernel
theorem dX12_words_36 : decode cX12_words 36 = .ok (.ifCond .eq 28, 3) := by decide +kernel
theorem dX12_words_39 : decode cX12_words 39 = .ok (.aload_n 0, 1) := by decide +kernel
theorem dX12_words_40 : decode cX12_words 40 = .ok (.invokevirtual 361, 3) := by decide +kernel
theorem dX12_words_43 : decode cX12_words 43 = .ok (.istore_n 1, 1) := by decide +kernel
theorem dX12_words_44 : decode cX12_words 44 = .ok (.iload_n 1, 1) := by decide +kernel
theorem dX12_words_45 : decode cX12_words 45 = .ok (.ifCond .eq 14, 3) := by decide +kernel
theorem dX12_words_48 : decode cX12_words 48 = .ok (.aload_n 0, 1) := by decide +kernel
theorem dX12_words_49 : decode cX12_words 49 = .ok (.getfield 365, 3) := by decide +kernel
theorem dX12_words_52 : decode cX12_words 52 = .ok (.ifCond .eq 7, 3) := by decide +kernel
theorem dX12_words_55 : decode cX12_words 55 = .ok (.iconst 1, 1) := by decide +kernel
theorem dX12_words_56 : decode cX12_words 56 = .ok (.goto 4, 3) := by decide +kernel
theorem dX12_words_59 : decode cX12_words 59 = .ok (.iconst 0, 1) := by decide +kernel
theorem dX12_words_60 : decode cX12_words 60 = .ok (.istore_n 2, 1) := by decide +kernel
theorem dX12_words_61 : decode cX12_words 61 = .ok (.goto (-41), 3) := by decide +kernel
theorem dX12_words_64 : decode cX12_words 64 = .ok (.aload_n 0, 1) := by decide +kernel
theorem dX12_words_65 : decode cX12_words 65 = .ok (.invokevirtual 349, 3) := by decide +kernel
theorem dX12_words_68 : decode cX12_words 68 = .ok (.aload_n 0, 1) := by decide +kernel
theorem dX12_words_69 : decode cX12_words 69 = .ok (.invokevirtual 306, 3) := by decide +kernel
theorem dX12_words_72 : decode cX12_words 72 = .ok (.bipush 44, 2) := by decide +kernel
theorem dX12_words_74 : decode cX12_words 74 = .ok (.if_icmp .ne 18, 3) := by decide +kernel
theorem dX12_words_77 : decode cX12_words 77 = .ok (.aload_n 0, 1) := by decide +kernel
theorem dX12_words_78 : decode cX12_words 78 = .ok (.dup, 1) := by decide +kernel
theorem dX12_words_79 : decode cX12_words 79 = .ok (.getfield 300, 3) := by decide +kernel
theorem dX12_words_82 : decode cX12_words 82 = .ok (.iconst 1, 1) := by decide +kernel
theorem dX12_words_83 : decode cX12_words 83 = .ok (.iadd, 1) := by decide +kernel
theorem dX12_words_84 : decode cX12_words 84 = .ok (.putfield 300, 3) := by decide +kernel
theorem dX12_words_87 : decode cX12_words 87 = .ok (.iconst 1, 1) := by decide +kernel
theorem dX12_words_88 : decode cX12_words 88 = .ok (.istore_n 2, 1) := by decide +kernel
theorem dX12_words_89 : decode cX12_words 89 = .ok (.goto (-69), 3) := by decide +kernel
theorem dX12_words_92 : decode cX12_words 92 = .ok (.aload_n 0, 1) := by decide +kernel
theorem dX12_words_93 : decode cX12_words 93 = .ok (.invokevirtual 306, 3) := by decide +kernel
theorem dX12_words_96 : decode cX12_words 96 = .ok (.bipush 41, 2) := by decide +kernel
theorem dX12_words_98 : decode cX12_words 98 = .ok (.if_icmp .ne 26, 3) := by decide +kernel
theorem dX12_words_101 : decode cX12_words 101 = .ok (.aload_n 0, 1) := by decide +kernel
theorem dX12_words_102 : decode cX12_words 102 = .ok (.dup, 1) := by decide +kernel
theorem dX12_words_103 : decode cX12_words 103 = .ok (.getfield 300, 3) := by decide +kernel
theorem dX12_words_106 : decode cX12_words 106 = .ok (.iconst 1, 1) := by decide +kernel
theorem dX12_words_107 : decode cX12_words 107 = .ok (.iadd, 1) := by decide +kernel
theorem dX12_words_108 : decode cX12_words 108 = .ok (.putfield 300, 3) := by decide +kernel
theorem dX12_words_111 : decode cX12_words 111 = .ok (.aload_n 0, 1) := by decide +kernel
theorem dX12_words_112 : decode cX12_words 112 = .ok (.dup, 1) := by decide +kernel
theorem dX12_words_113 : decode cX12_words 113 = .ok (.getfield 355, 3) := by decide +kernel
theorem dX12_words_116 : decode cX12_words 116 = .ok (.iconst 1, 1) := by decide +kernel
theorem dX12_words_117 : decode cX12_words 117 = .ok (.isub, 1) := by decide +kernel
theorem dX12_words_118 : decode cX12_words 118 = .ok (.putfield 355, 3) := by decide +kernel
theorem dX12_words_121 : decode cX12_words 121 = .ok (.goto (-101), 3) := by decide +kernel
theorem dX12_words_124 : decode cX12_words 124 = .ok (.aload_n 0, 1) := by decide +kernel
theorem dX12_words_125 : decode cX12_words 125 = .ok (.iconst 0, 1) := by decide +kernel
theorem dX12_words_126 : decode cX12_words 126 = .ok (.invokevirtual 369, 3) := by decide +kernel
theorem dX12_words_129 : decode cX12_words 129 = .ok (.istore_n 1, 1) := by decide +kernel
theorem dX12_words_130 : decode cX12_words 130 = .ok (.goto (-110), 3) := by decide +kernel
theorem dX12_words_133 : decode cX12_words 133 = .ok (.iload_n 1, 1) := by decide +kernel
theorem dX12_words_134 : decode cX12_words 134 = .ok (.ifCond .ne 5, 3) := by decide +kernel
theorem dX12_words_137 : decode cX12_words 137 = .ok (.iconst 0, 1) := by decide +kernel
theorem dX12_words_138 : decode cX12_words 138 = .ok (.ireturn, 1) := by decide +kernel
theorem dX12_words_139 : decode cX12_words 139 = .ok (.aload_n 0, 1) := by decide +kernel
theorem dX12_words_140 : decode cX12_words 140 = .ok (.invokevirtual 349, 3) := by decide +kernel
theorem dX12_words_143 : decode cX12_words 143 = .ok (.aload_n 0, 1) := by decide +kernel
theorem dX12_words_144 : decode cX12_words 144 = .ok (.getfield 300, 3) := by decide +kernel
theorem dX12_words_147 : decode cX12_words 147 = .ok (.aload_n 0, 1) := by decide +kernel
theorem dX12_words_148 : decode cX12_words 148 = .ok (.getfield 303, 3) := by decide +kernel
theorem dX12_words_151 : decode cX12_words 151 = .ok (.if_icmp .eq 16, 3) := by decide +kernel
theorem dX12_words_154 : decode cX12_words 154 = .ok (.aload_n 0, 1) := by decide +kernel
theorem dX12_words_155 : decode cX12_words 155 = .ok (.bipush 8, 2) := by decide +kernel
theorem dX12_words_157 : decode cX12_words 157 = .ok (.aload_n 0, 1) := by decide +kernel
theorem dX12_words_158 : decode cX12_words 158 = .ok (.getfield 300, 3) := by decide +kernel
theorem dX12_words_161 : decode cX12_words 161 = .ok (.invokevirtual 317, 3) := by decide +kernel
theorem dX12_words_164 : decode cX12_words 164 = .ok (.ifCond .eq 7, 3) := by decide +kernel
theorem dX12_words_167 : decode cX12_words 167 = .ok (.iconst 1, 1) := by decide +kernel
theorem dX12_words_168 : decode cX12_words 168 = .ok (.goto 4, 3) := by decide +kernel
theorem dX12_words_171 : decode cX12_words 171 = .ok (.iconst 0, 1) := by decide +kernel
theorem dX12_words_172 : decode cX12_words 172 = .ok (.ireturn, 1) := by decide +kernel
theorem dX12_beginShape_0 : decode cX12_beginShape 0 = .ok (.aload_n 0, 1) := by decide +kernel
theorem dX12_beginShape_1 : decode cX12_beginShape 1 = .ok (.iconst 0, 1) := by decide +kernel
theorem dX12_beginShape_2 : decode cX12_beginShape 2 = .ok (.putfield 365, 3) := by decide +kernel
theorem dX12_beginShape_5 : decode cX12_beginShape 5 = .ok (.aload_n 0, 1) := by decide +kernel
theorem dX12_beginShape_6 : decode cX12_beginShape 6 = .ok (.invokevirtual 349, 3) := by decide +kernel
theorem dX12_beginShape_9 : decode cX12_beginShape 9 = .ok (.aload_n 0, 1) := by decide +kernel
theorem dX12_beginShape_10 : decode cX12_beginShape 10 = .ok (.invokevirtual 306, 3) := by decide +kernel
theorem dX12_beginShape_13 : decode cX12_beginShape 13 = .ok (.iconst (-1), 1) := by decide +kernel
theorem dX12_beginShape_14 : decode cX12_beginShape 14 = .ok (.if_icmp .eq 13, 3) := by decide +kernel
theorem dX12_beginShape_17 : decode cX12_beginShape 17 = .ok (.aload_n 0, 1) := by decide +kernel
theorem dX12_beginShape_18 : decode cX12_beginShape 18 = .ok (.invokevirtual 306, 3) := by decide +kernel
theorem dX12_beginShape_21 : decode cX12_beginShape 21 = .ok (.invokestatic 314, 3) := by decide +kernel
theorem dX12_beginShape_24 : decode cX12_beginShape 24 = .ok (.ifCond .ne 9, 3) := by decide +kernel
theorem dX12_beginShape_27 : decode cX12_beginShape 27 = .ok (.aload_n 0, 1) := by decide +kernel
theorem dX12_beginShape_28 : decode cX12_beginShape 28 = .ok (.iconst 1, 1) := by decide +kernel
theorem dX12_beginShape_29 : decode cX12_beginShape 29 = .ok (.invokevirtual 369, 3) := by decide +kernel
theorem dX12_beginShape_32 : decode cX12_beginShape 32 = .ok (.ireturn, 1) := by decide +kernel
theorem dX12_beginShape_33 : decode cX12_beginShape 33 = .ok (.aload_n 0, 1) := by decide +kernel
theorem dX12_beginShape_34 : decode cX12_beginShape 34 = .ok (.getfield 300, 3) := by decide +kernel
theorem dX12_beginShape_37 : decode cX12_beginShape 37 = .ok (.istore_n 1, 1) := by decide +kernel
theorem dX12_beginShape_38 : decode cX12_beginShape 38 = .ok (.aload_n 0, 1) := by decide +kernel
theorem dX12_beginShape_39 : decode cX12_beginShape 39 = .ok (.invokevirtual 346, 3) := by decide +kernel
theorem dX12_beginShape_42 : decode cX12_beginShape 42 = .ok (.istore_n 2, 1) := by decide +kernel
theorem dX12_beginShape_43 : decode cX12_beginShape 43 = .ok (.iload_n 2, 1) := by decide +kernel
theorem dX12_beginShape_44 : decode cX12_beginShape 44 = .ok (.ifCond .eq 9, 3) := by decide +kernel
theorem dX12_beginShape_47 : decode cX12_beginShape 47 = .ok (.iload_n 2, 1) := by decide +kernel
theorem dX12_beginShape_48 : decode cX12_beginShape 48 = .ok (.bipush 8, 2) := by decide +kernel
theorem dX12_beginShape_50 : decode cX12_beginShape 50 = .ok (.if_icmp .ne 10, 3) := by decide +kernel
theorem dX12_beginShape_53 : decode cX12_beginShape 53 = .ok (.aload_n 0, 1) := by decide +kernel
theorem dX12_beginShape_54 : decode cX12_beginShape 54 = .ok (.iconst 2, 1) := by decide +kernel
theorem dX12_beginShape_55 : decode cX12_beginShape 55 = .ok (.iload_n 1, 1) := by decide +kernel
theorem dX12_beginShape_56 : decode cX12_beginShape 56 = .ok (.invokevirtual 317, 3) := by decide +kernel
theorem dX12_beginShape_59 : decode cX12_beginShape 59 = .ok (.ireturn, 1) := by decide +kernel
theorem dX12_beginShape_60 : decode cX12_beginShape 60 = .ok (.iload_n 2, 1) := by decide +kernel
theorem dX12_beginShape_61 : decode cX12_beginShape 61 = .ok (.bipush 7, 2) := by decide +kernel
theorem dX12_beginShape_63 : decode cX12_beginShape 63 = .ok (.if_icmp .ne 20, 3) := by decide +kernel
theorem dX12_beginShape_66 : decode cX12_beginShape 66 = .ok (.aload_n 0, 1) := by decide +kernel
theorem dX12_beginShape_67 : decode cX12_beginShape 67 = .ok (.getfield 355, 3) := by decide +kernel
theorem dX12_beginShape_70 : decode cX12_beginShape 70 = .ok (.bipush 50, 2) := by decide +kernel
theorem dX12_beginShape_72 : decode cX12_beginShape 72 = .ok (.if_icmp .ne 11, 3) := by decide +kernel
theorem dX12_beginShape_75 : decode cX12_beginShape 75 = .ok (.aload_n 0, 1) := by decide +kernel
theorem dX12_beginShape_76 : decode cX12_beginShape 76 = .ok (.bipush 6, 2) := by decide +kernel
theorem dX12_beginShape_78 : decode cX12_beginShape 78 = .ok (.iload_n 1, 1) := by decide +kernel
theorem dX12_beginShape_79 : decode cX12_beginShape 79 = .ok (.invokevirtual 317, 3) := by decide +kernel
theorem dX12_beginShape_82 : decode cX12_beginShape 82 = .ok (.ireturn, 1) := by decide +kernel
theorem dX12_beginShape_83 : decode cX12_beginShape 83 = .ok (.aload_n 0, 1) := by decide +kernel
theorem dX12_beginShape_84 : decode cX12_beginShape 84 = .ok (.iload_n 2, 1) := by decide +kernel
theorem dX12_beginShape_85 : decode cX12_beginShape 85 = .ok (.invokevirtual 373, 3) := by decide +kernel
theorem dX12_beginShape_88 : decode cX12_beginShape 88 = .ok (.ifCond .ne 5, 3) := by decide +kernel
theorem dX12_beginShape_91 : decode cX12_beginShape 91 = .ok (.iconst 0, 1) := by decide +kernel
theorem dX12_beginShape_92 : decode cX12_beginShape 92 = .ok (.ireturn, 1) := by decide +kernel
theorem dX12_beginShape_93 : decode cX12_beginShape 93 = .ok (.aload_n 0, 1) := by decide +kernel
theorem dX12_beginShape_94 : decode cX12_beginShape 94 = .ok (.getfield 18, 3) := by decide +kernel
theorem dX12_beginShape_97 : decode cX12_beginShape 97 = .ok (.bipush 32, 2) := by decide +kernel
theorem dX12_beginShape_99 : decode cX12_beginShape 99 = .ok (.iaload, 1) := by decide +kernel
theorem dX12_beginShape_100 : decode cX12_beginShape 100 = .ok (.iconst 1, 1) := by decide +kernel
theorem dX12_beginShape_101 : decode cX12_beginShape 101 = .ok (.isub, 1) := by decide +kernel
theorem dX12_beginShape_102 : decode cX12_beginShape 102 = .ok (.istore_n 3, 1) := by decide +kernel
theorem dX12_beginShape_103 : decode cX12_beginShape 103 = .ok (.aload_n 0, 1) := by decide +kernel
theorem dX12_beginShape_104 : decode cX12_beginShape 104 = .ok (.getfield 355, 3) := by decide +kernel
theorem dX12_beginShape_107 : decode cX12_beginShape 107 = .ok (.ifCond .le 18, 3) := by decide +kernel
theorem dX12_beginShape_110 : decode cX12_beginShape 110 = .ok (.aload_n 0, 1) := by decide +kernel
theorem dX12_beginShape_111 : decode cX12_beginShape 111 = .ok (.aload_n 0, 1) := by decide +kernel
theorem dX12_beginShape_112 : decode cX12_beginShape 112 = .ok (.getfield 41, 3) := by decide +kernel
theorem dX12_beginShape_115 : decode cX12_beginShape 115 = .ok (.aload_n 0, 1) := by decide +kernel
theorem dX12_beginShape_116 : decode cX12_beginShape 116 = .ok (.getfield 355, 3) := by decide +kernel
theorem dX12_beginShape_119 : decode cX12_beginShape 119 = .ok (.iconst 1, 1) := by decide +kernel
theorem dX12_beginShape_120 : decode cX12_beginShape 120 = .ok (.isub, 1) := by decide +kernel
theorem dX12_beginShape_121 : decode cX12_beginShape 121 = .ok (.iaload, 1) := by decide +kernel
theorem dX12_beginShape_122 : decode cX12_beginShape 122 = .ok (.invokevirtual 376, 3) := by decide +kernel
theorem dX12_beginShape_125 : decode cX12_beginShape 125 = .ok (.aload_n 0, 1) := by decide +kernel
theorem dX12_beginShape_126 : decode cX12_beginShape 126 = .ok (.invokevirtual 306, 3) := by decide +kernel
theorem dX12_beginShape_129 : decode cX12_beginShape 129 = .ok (.iconst (-1), 1) := by decide +kernel
theorem dX12_beginShape_130 : decode cX12_beginShape 130 = .ok (.if_icmp .eq 18, 3) := by decide +kernel
theorem dX12_beginShape_133 : decode cX12_beginShape 133 = .ok (.aload_n 0, 1) := by decide +kernel
theorem dX12_beginShape_134 : decode cX12_beginShape 134 = .ok (.invokevirtual 306, 3) := by decide +kernel
theorem dX12_beginShape_137 : decode cX12_beginShape 137 = .ok (.invokestatic 314, 3) := by decide +kernel
theorem dX12_beginShape_140 : decode cX12_beginShape 140 = .ok (.ifCond .eq 8, 3) := by decide +kernel
theorem dX12_beginShape_143 : decode cX12_beginShape 143 = .ok (.aload_n 0, 1) := by decide +kernel
theorem dX12_beginShape_144 : decode cX12_beginShape 144 = .ok (.invokevirtual 379, 3) := by decide +kernel
theorem dX12_beginShape_147 : decode cX12_beginShape 147 = .ok (.ireturn, 1) := by decide +kernel
theorem dX12_beginShape_148 : decode cX12_beginShape 148 = .ok (.aload_n 0, 1) := by decide +kernel
theorem dX12_beginShape_149 : decode cX12_beginShape 149 = .ok (.invokevirtual 306, 3) := by decide +kernel
theorem dX12_beginShape_152 : decode cX12_beginShape 152 = .ok (.bipush 40, 2) := by decide +kernel
theorem dX12_beginShape_154 : decode cX12_beginShape 154 = .ok (.if_icmp .eq 9, 3) := by decide +kernel
theorem dX12_beginShape_157 : decode cX12_beginShape 157 = .ok (.aload_n 0, 1) := by decide +kernel
theorem dX12_beginShape_158 : decode cX12_beginShape 158 = .ok (.iconst 1, 1) := by decide +kernel
theorem dX12_beginShape_159 : decode cX12_beginShape 159 = .ok (.invokevirtual 369, 3) := by decide +kernel
theorem dX12_beginShape_162 : decode cX12_beginShape 162 = .ok (.ireturn, 1) := by decide +kernel
theorem dX12_beginShape_163 : decode cX12_beginShape 163 = .ok (.aload_n 0, 1) := by decide +kernel
theorem dX12_beginShape_164 : decode cX12_beginShape 164 = .ok (.dup, 1) := by decide +kernel
theorem dX12_beginShape_165 : decode cX12_beginShape 165 = .ok (.getfield 300, 3) := by decide +kernel
theorem dX12_beginShape_168 : decode cX12_beginShape 168 = .ok (.iconst 1, 1) := by decide +kernel
theorem dX12_beginShape_169 : decode cX12_beginShape 169 = .ok (.iadd, 1) := by decide +kernel
theorem dX12_beginShape_170 : decode cX12_beginShape 170 = .ok (.putfield 300, 3) := by decide +kernel
theorem dX12_beginShape_173 : decode cX12_beginShape 173 = .ok (.iload_n 2, 1) := by decide +kernel
theorem dX12_beginShape_174 : decode cX12_beginShape 174 = .ok (.bipush 7, 2) := by decide +kernel
theorem dX12_beginShape_176 : decode cX12_beginShape 176 = .ok (.if_icmp .ne 30, 3) := by decide +kernel
theorem dX12_beginShape_179 : decode cX12_beginShape 179 = .ok (.aload_n 0, 1) := by decide +kernel
theorem dX12_beginShape_180 : decode cX12_beginShape 180 = .ok (.getfield 41, 3) := by decide +kernel
theorem dX12_beginShape_183 : decode cX12_beginShape 183 = .ok (.aload_n 0, 1) := by decide +kernel
theorem dX12_beginShape_184 : decode cX12_beginShape 184 = .ok (.getfield 355, 3) := by decide +kernel
theorem dX12_beginShape_187 : decode cX12_beginShape 187 = .ok (.iload_n 3, 1) := by decide +kernel
theorem dX12_beginShape_188 : decode cX12_beginShape 188 = .ok (.iastore, 1) := by decide +kernel
theorem dX12_beginShape_189 : decode cX12_beginShape 189 = .ok (.aload_n 0, 1) := by decide +kernel
theorem dX12_beginShape_190 : decode cX12_beginShape 190 = .ok (.dup, 1) := by decide +kernel
theorem dX12_beginShape_191 : decode cX12_beginShape 191 = .ok (.getfield 355, 3) := by decide +kernel
theorem dX12_beginShape_194 : decode cX12_beginShape 194 = .ok (.iconst 1, 1) := by decide +kernel
theorem dX12_beginShape_195 : decode cX12_beginShape 195 = .ok (.iadd, 1) := by decide +kernel
theorem dX12_beginShape_196 : decode cX12_beginShape 196 = .ok (.putfield 355, 3) := by decide +kernel
theorem dX12_beginShape_199 : decode cX12_beginShape 199 = .ok (.aload_n 0, 1) := by decide +kernel
theorem dX12_beginShape_200 : decode cX12_beginShape 200 = .ok (.iconst 1, 1) := by decide +kernel
theorem dX12_beginShape_201 : decode cX12_beginShape 201 = .ok (.putfield 365, 3) := by decide +kernel
theorem dX12_beginShape_204 : decode cX12_beginShape 204 = .ok (.iconst 1, 1) := by decide +kernel
theorem dX12_beginShape_205 : decode cX12_beginShape 205 = .ok (.ireturn, 1) := by decide +kernel
theorem dX12_beginShape_206 : decode cX12_beginShape 206 = .ok (.aload_n 0, 1) := by decide +kernel
theorem dX12_beginShape_207 : decode cX12_beginShape 207 = .ok (.iload_n 2, 1) := by decide +kernel
theorem dX12_beginShape_208 : decode cX12_beginShape 208 = .ok (.iload_n 3, 1) := by decide +kernel
theorem dX12_beginShape_209 : decode cX12_beginShape 209 = .ok (.invokevirtual 382, 3) := by decide +kernel
theorem dX12_beginShape_212 : decode cX12_beginShape 212 = .ok (.ireturn, 1) := by decide +kernel
theorem dX12_body_0 : decode cX12_body 0 = .ok (.iload_n 1, 1) := by decide +kernel
theorem dX12_body_1 : decode cX12_body 1 = .ok (.tableswitch 64 1 3 #[27, 52, 58], 27) := by decide +kernel
theorem dX12_body_28 : decode cX12_body 28 = .ok (.aload_n 0, 1) := by decide +kernel
theorem dX12_body_29 : decode cX12_body 29 = .ok (.iload_n 2, 1) := by decide +kernel
theorem dX12_body_30 : decode cX12_body 30 = .ok (.invokevirtual 376, 3) := by decide +kernel
theorem dX12_body_33 : decode cX12_body 33 = .ok (.aload_n 0, 1) := by decide +kernel
theorem dX12_body_34 : decode cX12_body 34 = .ok (.invokevirtual 385, 3) := by decide +kernel
theorem dX12_body_37 : decode cX12_body 37 = .ok (.ifCond .eq 14, 3) := by decide +kernel
theorem dX12_body_40 : decode cX12_body 40 = .ok (.aload_n 0, 1) := by decide +kernel
theorem dX12_body_41 : decode cX12_body 41 = .ok (.invokevirtual 388, 3) := by decide +kernel
theorem dX12_body_44 : decode cX12_body 44 = .ok (.ifCond .eq 7, 3) := by decide +kernel
theorem dX12_body_47 : decode cX12_body 47 = .ok (.iconst 1, 1) := by decide +kernel
theorem dX12_body_48 : decode cX12_body 48 = .ok (.goto 4, 3) := by decide +kernel
theorem dX12_body_51 : decode cX12_body 51 = .ok (.iconst 0, 1) := by decide +kernel
theorem dX12_body_52 : decode cX12_body 52 = .ok (.ireturn, 1) := by decide +kernel
theorem dX12_body_53 : decode cX12_body 53 = .ok (.aload_n 0, 1) := by decide +kernel
theorem dX12_body_54 : decode cX12_body 54 = .ok (.iload_n 2, 1) := by decide +kernel
theorem dX12_body_55 : decode cX12_body 55 = .ok (.invokevirtual 391, 3) := by decide +kernel
theorem dX12_body_58 : decode cX12_body 58 = .ok (.ireturn, 1) := by decide +kernel
theorem dX12_body_59 : decode cX12_body 59 = .ok (.aload_n 0, 1) := by decide +kernel
theorem dX12_body_60 : decode cX12_body 60 = .ok (.iload_n 2, 1) := by decide +kernel
theorem dX12_body_61 : decode cX12_body 61 = .ok (.invokevirtual 394, 3) := by decide +kernel
theorem dX12_body_64 : decode cX12_body 64 = .ok (.ireturn, 1) := by decide +kernel
theorem dX12_body_65 : decode cX12_body 65 = .ok (.aload_n 0, 1) := by decide +kernel
theorem dX12_body_66 : decode cX12_body 66 = .ok (.iload_n 1, 1) := by decide +kernel
theorem dX12_body_67 : decode cX12_body 67 = .ok (.iload_n 2, 1) := by decide +kernel
theorem dX12_body_68 : decode cX12_body 68 = .ok (.invokevirtual 397, 3) := by decide +kernel
theorem dX12_body_71 : decode cX12_body 71 = .ok (.ireturn, 1) := by decide +kernel
theorem dX12_closes_0 : decode cX12_closes 0 = .ok (.aload_n 0, 1) := by decide +kernel
theorem dX12_closes_1 : decode cX12_closes 1 = .ok (.invokevirtual 349, 3) := by decide +kernel
theorem dX12_closes_4 : decode cX12_closes 4 = .ok (.aload_n 0, 1) := by decide +kernel
theorem dX12_closes_5 : decode cX12_closes 5 = .ok (.invokevirtual 306, 3) := by decide +kernel
theorem dX12_closes_8 : decode cX12_closes 8 = .ok (.bipush 41, 2) := by decide +kernel
theorem dX12_closes_10 : decode cX12_closes 10 = .ok (.if_icmp .eq 9, 3) := by decide +kernel
theorem dX12_closes_13 : decode cX12_closes 13 = .ok (.aload_n 0, 1) := by decide +kernel
theorem dX12_closes_14 : decode cX12_closes 14 = .ok (.iconst 0, 1) := by decide +kernel
theorem dX12_closes_15 : decode cX12_closes 15 = .ok (.invokevirtual 369, 3) := by decide +kernel
theorem dX12_closes_18 : decode cX12_closes 18 = .ok (.ireturn, 1) := by decide +kernel
theorem dX12_closes_19 : decode cX12_closes 19 = .ok (.aload_n 0, 1) := by decide +kernel
theorem dX12_closes_20 : decode cX12_closes 20 = .ok (.dup, 1) := by decide +kernel
theorem dX12_closes_21 : decode cX12_closes 21 = .ok (.getfield 300, 3) := by decide +kernel
theorem dX12_closes_24 : decode cX12_closes 24 = .ok (.iconst 1, 1) := by decide +kernel
theorem dX12_closes_25 : decode cX12_closes 25 = .ok (.iadd, 1) := by decide +kernel
theorem dX12_closes_26 : decode cX12_closes 26 = .ok (.putfield 300, 3) := by decide +kernel
theorem dX12_closes_29 : decode cX12_closes 29 = .ok (.iconst 1, 1) := by decide +kernel
theorem dX12_closes_30 : decode cX12_closes 30 = .ok (.ireturn, 1) := by decide +kernel
theorem dX12_goesOn_0 : decode cX12_goesOn 0 = .ok (.aload_n 0, 1) := by decide +kernel
theorem dX12_goesOn_1 : decode cX12_goesOn 1 = .ok (.invokevirtual 349, 3) := by decide +kernel
theorem dX12_goesOn_4 : decode cX12_goesOn 4 = .ok (.aload_n 0, 1) := by decide +kernel
theorem dX12_goesOn_5 : decode cX12_goesOn 5 = .ok (.invokevirtual 306, 3) := by decide +kernel
theorem dX12_goesOn_8 : decode cX12_goesOn 8 = .ok (.istore_n 1, 1) := by decide +kernel
theorem dX12_goesOn_9 : decode cX12_goesOn 9 = .ok (.iload_n 1, 1) := by decide +kernel
theorem dX12_goesOn_10 : decode cX12_goesOn 10 = .ok (.bipush 44, 2) := by decide +kernel
theorem dX12_goesOn_12 : decode cX12_goesOn 12 = .ok (.if_icmp .eq 17, 3) := by decide +kernel
theorem dX12_goesOn_15 : decode cX12_goesOn 15 = .ok (.iload_n 1, 1) := by decide +kernel
theorem dX12_goesOn_16 : decode cX12_goesOn 16 = .ok (.bipush 41, 2) := by decide +kernel
theorem dX12_goesOn_18 : decode cX12_goesOn 18 = .ok (.if_icmp .eq 11, 3) := by decide +kernel
theorem dX12_goesOn_21 : decode cX12_goesOn 21 = .ok (.aload_n 0, 1) := by decide +kernel
theorem dX12_goesOn_22 : decode cX12_goesOn 22 = .ok (.iconst 0, 1) := by decide +kernel
theorem dX12_goesOn_23 : decode cX12_goesOn 23 = .ok (.invokevirtual 369, 3) := by decide +kernel
theorem dX12_goesOn_26 : decode cX12_goesOn 26 = .ok (.pop, 1) := by decide +kernel
theorem dX12_goesOn_27 : decode cX12_goesOn 27 = .ok (.iconst (-1), 1) := by decide +kernel
theorem dX12_goesOn_28 : decode cX12_goesOn 28 = .ok (.ireturn, 1) := by decide +kernel
theorem dX12_goesOn_29 : decode cX12_goesOn 29 = .ok (.aload_n 0, 1) := by decide +kernel
theorem dX12_goesOn_30 : decode cX12_goesOn 30 = .ok (.dup, 1) := by decide +kernel
theorem dX12_goesOn_31 : decode cX12_goesOn 31 = .ok (.getfield 300, 3) := by decide +kernel
theorem dX12_goesOn_34 : decode cX12_goesOn 34 = .ok (.iconst 1, 1) := by decide +kernel
theorem dX12_goesOn_35 : decode cX12_goesOn 35 = .ok (.iadd, 1) := by decide +kernel
theorem dX12_goesOn_36 : decode cX12_goesOn 36 = .ok (.putfield 300, 3) := by decide +kernel
theorem dX12_goesOn_39 : decode cX12_goesOn 39 = .ok (.iload_n 1, 1) := by decide +kernel
theorem dX12_goesOn_40 : decode cX12_goesOn 40 = .ok (.bipush 44, 2) := by decide +kernel
theorem dX12_goesOn_42 : decode cX12_goesOn 42 = .ok (.if_icmp .ne 7, 3) := by decide +kernel
theorem dX12_goesOn_45 : decode cX12_goesOn 45 = .ok (.iconst 1, 1) := by decide +kernel
theorem dX12_goesOn_46 : decode cX12_goesOn 46 = .ok (.goto 4, 3) := by decide +kernel
theorem dX12_goesOn_49 : decode cX12_goesOn 49 = .ok (.iconst 0, 1) := by decide +kernel
theorem dX12_goesOn_50 : decode cX12_goesOn 50 = .ok (.ireturn, 1) := by decide +kernel
theorem dX12_row_0 : decode cX12_row 0 = .ok (.iconst 1, 1) := by decide +kernel
theorem dX12_row_1 : decode cX12_row 1 = .ok (.istore_n 2, 1) := by decide +kernel
theorem dX12_row_2 : decode cX12_row 2 = .ok (.iload_n 2, 1) := by decide +kernel
theorem dX12_row_3 : decode cX12_row 3 = .ok (.iconst 1, 1) := by decide +kernel
theorem dX12_row_4 : decode cX12_row 4 = .ok (.if_icmp .ne 25, 3) := by decide +kernel
theorem dX12_row_7 : decode cX12_row 7 = .ok (.aload_n 0, 1) := by decide +kernel
theorem dX12_row_8 : decode cX12_row 8 = .ok (.invokevirtual 385, 3) := by decide +kernel
theorem dX12_row_11 : decode cX12_row 11 = .ok (.ifCond .ne 5, 3) := by decide +kernel
theorem dX12_row_14 : decode cX12_row 14 = .ok (.iconst 0, 1) := by decide +kernel
theorem dX12_row_15 : decode cX12_row 15 = .ok (.ireturn, 1) := by decide +kernel
theorem dX12_row_16 : decode cX12_row 16 = .ok (.aload_n 0, 1) := by decide +kernel
theorem dX12_row_17 : decode cX12_row 17 = .ok (.iload_n 1, 1) := by decide +kernel
theorem dX12_row_18 : decode cX12_row 18 = .ok (.invokevirtual 376, 3) := by decide +kernel
theorem dX12_row_21 : decode cX12_row 21 = .ok (.aload_n 0, 1) := by decide +kernel
theorem dX12_row_22 : decode cX12_row 22 = .ok (.invokevirtual 400, 3) := by decide +kernel
theorem dX12_row_25 : decode cX12_row 25 = .ok (.istore_n 2, 1) := by decide +kernel
theorem dX12_row_26 : decode cX12_row 26 = .ok (.goto (-24), 3) := by decide +kernel
theorem dX12_row_29 : decode cX12_row 29 = .ok (.iload_n 2, 1) := by decide +kernel
theorem dX12_row_30 : decode cX12_row 30 = .ok (.ifCond .ne 7, 3) := by decide +kernel
theorem dX12_row_33 : decode cX12_row 33 = .ok (.iconst 1, 1) := by decide +kernel
theorem dX12_row_34 : decode cX12_row 34 = .ok (.goto 4, 3) := by decide +kernel
theorem dX12_row_37 : decode cX12_row 37 = .ok (.iconst 0, 1) := by decide +kernel
theorem dX12_row_38 : decode cX12_row 38 = .ok (.ireturn, 1) := by decide +kernel
theorem dX12_rings_0 : decode cX12_rings 0 = .ok (.iconst 1, 1) := by decide +kernel
theorem dX12_rings_1 : decode cX12_rings 1 = .ok (.istore_n 2, 1) := by decide +kernel
theorem dX12_rings_2 : decode cX12_rings 2 = .ok (.iload_n 2, 1) := by decide +kernel
theorem dX12_rings_3 : decode cX12_rings 3 = .ok (.iconst 1, 1) := by decide +kernel
theorem dX12_rings_4 : decode cX12_rings 4 = .ok (.if_icmp .ne 92, 3) := by decide +kernel
theorem dX12_rings_7 : decode cX12_rings 7 = .ok (.aload_n 0, 1) := by decide +kernel
theorem dX12_rings_8 : decode cX12_rings 8 = .ok (.invokevirtual 349, 3) := by decide +kernel
theorem dX12_rings_11 : decode cX12_rings 11 = .ok (.aload_n 0, 1) := by decide +kernel
theorem dX12_rings_12 : decode cX12_rings 12 = .ok (.getfield 18, 3) := by decide +kernel
theorem dX12_rings_15 : decode cX12_rings 15 = .ok (.bipush 32, 2) := by decide +kernel
theorem dX12_rings_17 : decode cX12_rings 17 = .ok (.iaload, 1) := by decide +kernel
theorem dX12_rings_18 : decode cX12_rings 18 = .ok (.sipush 2048, 3) := by decide +kernel
theorem dX12_rings_21 : decode cX12_rings 21 = .ok (.if_icmp .ne 14, 3) := by decide +kernel
theorem dX12_rings_24 : decode cX12_rings 24 = .ok (.aload_n 0, 1) := by decide +kernel
theorem dX12_rings_25 : decode cX12_rings 25 = .ok (.bipush 7, 2) := by decide +kernel
theorem dX12_rings_27 : decode cX12_rings 27 = .ok (.aload_n 0, 1) := by decide +kernel
theorem dX12_rings_28 : decode cX12_rings 28 = .ok (.getfield 300, 3) := by decide +kernel
theorem dX12_rings_31 : decode cX12_rings 31 = .ok (.invokevirtual 317, 3) := by decide +kernel
theorem dX12_rings_34 : decode cX12_rings 34 = .ok (.ireturn, 1) := by decide +kernel
theorem dX12_rings_35 : decode cX12_rings 35 = .ok (.aload_n 0, 1) := by decide +kernel
theorem dX12_rings_36 : decode cX12_rings 36 = .ok (.invokevirtual 306, 3) := by decide +kernel
theorem dX12_rings_39 : decode cX12_rings 39 = .ok (.bipush 40, 2) := by decide +kernel
theorem dX12_rings_41 : decode cX12_rings 41 = .ok (.if_icmp .eq 9, 3) := by decide +kernel
theorem dX12_rings_44 : decode cX12_rings 44 = .ok (.aload_n 0, 1) := by decide +kernel
theorem dX12_rings_45 : decode cX12_rings 45 = .ok (.iconst 0, 1) := by decide +kernel
theorem dX12_rings_46 : decode cX12_rings 46 = .ok (.invokevirtual 369, 3) := by decide +kernel
theorem dX12_rings_49 : decode cX12_rings 49 = .ok (.ireturn, 1) := by decide +kernel
theorem dX12_rings_50 : decode cX12_rings 50 = .ok (.aload_n 0, 1) := by decide +kernel
theorem dX12_rings_51 : decode cX12_rings 51 = .ok (.dup, 1) := by decide +kernel
theorem dX12_rings_52 : decode cX12_rings 52 = .ok (.getfield 300, 3) := by decide +kernel
theorem dX12_rings_55 : decode cX12_rings 55 = .ok (.iconst 1, 1) := by decide +kernel
theorem dX12_rings_56 : decode cX12_rings 56 = .ok (.iadd, 1) := by decide +kernel
theorem dX12_rings_57 : decode cX12_rings 57 = .ok (.putfield 300, 3) := by decide +kernel
theorem dX12_rings_60 : decode cX12_rings 60 = .ok (.aload_n 0, 1) := by decide +kernel
theorem dX12_rings_61 : decode cX12_rings 61 = .ok (.getfield 18, 3) := by decide +kernel
theorem dX12_rings_64 : decode cX12_rings 64 = .ok (.bipush 32, 2) := by decide +kernel
theorem dX12_rings_66 : decode cX12_rings 66 = .ok (.iaload, 1) := by decide +kernel
theorem dX12_rings_67 : decode cX12_rings 67 = .ok (.istore_n 3, 1) := by decide +kernel
theorem dX12_rings_68 : decode cX12_rings 68 = .ok (.aload_n 0, 1) := by decide +kernel
theorem dX12_rings_69 : decode cX12_rings 69 = .ok (.iconst 0, 1) := by decide +kernel
theorem dX12_rings_70 : decode cX12_rings 70 = .ok (.invokevirtual 352, 3) := by decide +kernel
theorem dX12_rings_73 : decode cX12_rings 73 = .ok (.aload_n 0, 1) := by decide +kernel
theorem dX12_rings_74 : decode cX12_rings 74 = .ok (.iload_n 1, 1) := by decide +kernel
theorem dX12_rings_75 : decode cX12_rings 75 = .ok (.invokevirtual 376, 3) := by decide +kernel
theorem dX12_rings_78 : decode cX12_rings 78 = .ok (.aload_n 0, 1) := by decide +kernel
theorem dX12_rings_79 : decode cX12_rings 79 = .ok (.iload_n 3, 1) := by decide +kernel
theorem dX12_rings_80 : decode cX12_rings 80 = .ok (.invokevirtual 391, 3) := by decide +kernel
theorem dX12_rings_83 : decode cX12_rings 83 = .ok (.ifCond .ne 5, 3) := by decide +kernel
theorem dX12_rings_86 : decode cX12_rings 86 = .ok (.iconst 0, 1) := by decide +kernel
theorem dX12_rings_87 : decode cX12_rings 87 = .ok (.ireturn, 1) := by decide +kernel
theorem dX12_rings_88 : decode cX12_rings 88 = .ok (.aload_n 0, 1) := by decide +kernel
theorem dX12_rings_89 : decode cX12_rings 89 = .ok (.invokevirtual 400, 3) := by decide +kernel
theorem dX12_rings_92 : decode cX12_rings 92 = .ok (.istore_n 2, 1) := by decide +kernel
theorem dX12_rings_93 : decode cX12_rings 93 = .ok (.goto (-91), 3) := by decide +kernel
theorem dX12_rings_96 : decode cX12_rings 96 = .ok (.iload_n 2, 1) := by decide +kernel
theorem dX12_rings_97 : decode cX12_rings 97 = .ok (.ifCond .ne 7, 3) := by decide +kernel
theorem dX12_rings_100 : decode cX12_rings 100 = .ok (.iconst 1, 1) := by decide +kernel
theorem dX12_rings_101 : decode cX12_rings 101 = .ok (.goto 4, 3) := by decide +kernel
theorem dX12_rings_104 : decode cX12_rings 104 = .ok (.iconst 0, 1) := by decide +kernel
theorem dX12_rings_105 : decode cX12_rings 105 = .ok (.ireturn, 1) := by decide +kernel
theorem dX12_coordinate_0 : decode cX12_coordinate 0 = .ok (.aload_n 0, 1) := by decide +kernel
theorem dX12_coordinate_1 : decode cX12_coordinate 1 = .ok (.invokevirtual 349, 3) := by decide +kernel
theorem dX12_coordinate_4 : decode cX12_coordinate 4 = .ok (.aload_n 0, 1) := by decide +kernel
theorem dX12_coordinate_5 : decode cX12_coordinate 5 = .ok (.getfield 26, 3) := by decide +kernel
theorem dX12_coordinate_8 : decode cX12_coordinate 8 = .ok (.bipush 32, 2) := by decide +kernel
theorem dX12_coordinate_10 : decode cX12_coordinate 10 = .ok (.iaload, 1) := by decide +kernel
theorem dX12_coordinate_11 : decode cX12_coordinate 11 = .ok (.sipush 2048, 3) := by decide +kernel
theorem dX12_coordinate_14 : decode cX12_coordinate 14 = .ok (.if_icmp .ne 14, 3) := by decide +kernel
theorem dX12_coordinate_17 : decode cX12_coordinate 17 = .ok (.aload_n 0, 1) := by decide +kernel
theorem dX12_coordinate_18 : decode cX12_coordinate 18 = .ok (.bipush 7, 2) := by decide +kernel
theorem dX12_coordinate_20 : decode cX12_coordinate 20 = .ok (.aload_n 0, 1) := by decide +kernel
theorem dX12_coordinate_21 : decode cX12_coordinate 21 = .ok (.getfield 300, 3) := by decide +kernel
theorem dX12_coordinate_24 : decode cX12_coordinate 24 = .ok (.invokevirtual 317, 3) := by decide +kernel
theorem dX12_coordinate_27 : decode cX12_coordinate 27 = .ok (.ireturn, 1) := by decide +kernel
theorem dX12_coordinate_28 : decode cX12_coordinate 28 = .ok (.aload_n 0, 1) := by decide +kernel
theorem dX12_coordinate_29 : decode cX12_coordinate 29 = .ok (.invokevirtual 406, 3) := by decide +kernel
theorem dX12_coordinate_32 : decode cX12_coordinate 32 = .ok (.ifCond .ne 5, 3) := by decide +kernel
theorem dX12_coordinate_35 : decode cX12_coordinate 35 = .ok (.iconst 0, 1) := by decide +kernel
theorem dX12_coordinate_36 : decode cX12_coordinate 36 = .ok (.ireturn, 1) := by decide +kernel
theorem dX12_coordinate_37 : decode cX12_coordinate 37 = .ok (.aload_n 0, 1) := by decide +kernel
theorem dX12_coordinate_38 : decode cX12_coordinate 38 = .ok (.getfield 409, 3) := by decide +kernel
theorem dX12_coordinate_41 : decode cX12_coordinate 41 = .ok (.lstore_n 1, 1) := by decide +kernel
theorem dX12_coordinate_42 : decode cX12_coordinate 42 = .ok (.aload_n 0, 1) := by decide +kernel
theorem dX12_coordinate_43 : decode cX12_coordinate 43 = .ok (.invokevirtual 306, 3) := by decide +kernel
theorem dX12_coordinate_46 : decode cX12_coordinate 46 = .ok (.invokestatic 310, 3) := by decide +kernel
theorem dX12_coordinate_49 : decode cX12_coordinate 49 = .ok (.ifCond .ne 9, 3) := by decide +kernel
theorem dX12_coordinate_52 : decode cX12_coordinate 52 = .ok (.aload_n 0, 1) := by decide +kernel
theorem dX12_coordinate_53 : decode cX12_coordinate 53 = .ok (.iconst 0, 1) := by decide +kernel
theorem dX12_coordinate_54 : decode cX12_coordinate 54 = .ok (.invokevirtual 369, 3) := by decide +kernel
theorem dX12_coordinate_57 : decode cX12_coordinate 57 = .ok (.ireturn, 1) := by decide +kernel
theorem dX12_coordinate_58 : decode cX12_coordinate 58 = .ok (.aload_n 0, 1) := by decide +kernel
theorem dX12_coordinate_59 : decode cX12_coordinate 59 = .ok (.invokevirtual 349, 3) := by decide +kernel
theorem dX12_coordinate_62 : decode cX12_coordinate 62 = .ok (.aload_n 0, 1) := by decide +kernel
theorem dX12_coordinate_63 : decode cX12_coordinate 63 = .ok (.invokevirtual 406, 3) := by decide +kernel
theorem dX12_coordinate_66 : decode cX12_coordinate 66 = .ok (.ifCond .ne 5, 3) := by decide +kernel
theorem dX12_coordinate_69 : decode cX12_coordinate 69 = .ok (.iconst 0, 1) := by decide +kernel
theorem dX12_coordinate_70 : decode cX12_coordinate 70 = .ok (.ireturn, 1) := by decide +kernel
theorem dX12_coordinate_71 : decode cX12_coordinate 71 = .ok (.aload_n 0, 1) := by decide +kernel
theorem dX12_coordinate_72 : decode cX12_coordinate 72 = .ok (.lload_n 1, 1) := by decide +kernel
theorem dX12_coordinate_73 : decode cX12_coordinate 73 = .ok (.aload_n 0, 1) := by decide +kernel
theorem dX12_coordinate_74 : decode cX12_coordinate 74 = .ok (.getfield 409, 3) := by decide +kernel
theorem dX12_coordinate_77 : decode cX12_coordinate 77 = .ok (.invokevirtual 412, 3) := by decide +kernel
theorem dX12_coordinate_80 : decode cX12_coordinate 80 = .ok (.iconst 1, 1) := by decide +kernel
theorem dX12_coordinate_81 : decode cX12_coordinate 81 = .ok (.ireturn, 1) := by decide +kernel
theorem dX12_digitsOn_0 : decode cX12_digitsOn 0 = .ok (.aload_n 0, 1) := by decide +kernel
theorem dX12_digitsOn_1 : decode cX12_digitsOn 1 = .ok (.invokevirtual 306, 3) := by decide +kernel
theorem dX12_digitsOn_4 : decode cX12_digitsOn 4 = .ok (.invokestatic 321, 3) := by decide +kernel
theorem dX12_digitsOn_7 : decode cX12_digitsOn 7 = .ok (.ifCond .eq 16, 3) := by decide +kernel
theorem dX12_digitsOn_10 : decode cX12_digitsOn 10 = .ok (.aload_n 0, 1) := by decide +kernel
theorem dX12_digitsOn_11 : decode cX12_digitsOn 11 = .ok (.dup, 1) := by decide +kernel
theorem dX12_digitsOn_12 : decode cX12_digitsOn 12 = .ok (.getfield 300, 3) := by decide +kernel
theorem dX12_digitsOn_15 : decode cX12_digitsOn 15 = .ok (.iconst 1, 1) := by decide +kernel
theorem dX12_digitsOn_16 : decode cX12_digitsOn 16 = .ok (.iadd, 1) := by decide +kernel
theorem dX12_digitsOn_17 : decode cX12_digitsOn 17 = .ok (.putfield 300, 3) := by decide +kernel
theorem dX12_digitsOn_20 : decode cX12_digitsOn 20 = .ok (.goto (-20), 3) := by decide +kernel
theorem dX12_digitsOn_23 : decode cX12_digitsOn 23 = .ok (.return_, 1) := by decide +kernel
theorem dX12_number_0 : decode cX12_number 0 = .ok (.aload_n 0, 1) := by decide +kernel
theorem dX12_number_1 : decode cX12_number 1 = .ok (.getfield 300, 3) := by decide +kernel
theorem dX12_number_4 : decode cX12_number 4 = .ok (.istore_n 1, 1) := by decide +kernel
theorem dX12_number_5 : decode cX12_number 5 = .ok (.aload_n 0, 1) := by decide +kernel
theorem dX12_number_6 : decode cX12_number 6 = .ok (.invokevirtual 306, 3) := by decide +kernel
theorem dX12_number_9 : decode cX12_number 9 = .ok (.istore_n 2, 1) := by decide +kernel
theorem dX12_number_10 : decode cX12_number 10 = .ok (.iload_n 2, 1) := by decide +kernel
theorem dX12_number_11 : decode cX12_number 11 = .ok (.invokestatic 321, 3) := by decide +kernel
theorem dX12_number_14 : decode cX12_number 14 = .ok (.ifCond .ne 22, 3) := by decide +kernel
theorem dX12_number_17 : decode cX12_number 17 = .ok (.iload_n 2, 1) := by decide +kernel
theorem dX12_number_18 : decode cX12_number 18 = .ok (.invokestatic 324, 3) := by decide +kernel
theorem dX12_number_21 : decode cX12_number 21 = .ok (.ifCond .ne 15, 3) := by decide +kernel
theorem dX12_number_24 : decode cX12_number 24 = .ok (.iload_n 2, 1) := by decide +kernel
theorem dX12_number_25 : decode cX12_number 25 = .ok (.bipush 46, 2) := by decide +kernel
theorem dX12_number_27 : decode cX12_number 27 = .ok (.if_icmp .eq 9, 3) := by decide +kernel
theorem dX12_number_30 : decode cX12_number 30 = .ok (.aload_n 0, 1) := by decide +kernel
theorem dX12_number_31 : decode cX12_number 31 = .ok (.iconst 0, 1) := by decide +kernel
theorem dX12_number_32 : decode cX12_number 32 = .ok (.invokevirtual 369, 3) := by decide +kernel
theorem dX12_number_35 : decode cX12_number 35 = .ok (.ireturn, 1) := by decide +kernel
theorem dX12_number_36 : decode cX12_number 36 = .ok (.iload_n 2, 1) := by decide +kernel
theorem dX12_number_37 : decode cX12_number 37 = .ok (.invokestatic 324, 3) := by decide +kernel
theorem dX12_number_40 : decode cX12_number 40 = .ok (.ifCond .eq 13, 3) := by decide +kernel
theorem dX12_number_43 : decode cX12_number 43 = .ok (.aload_n 0, 1) := by decide +kernel
theorem dX12_number_44 : decode cX12_number 44 = .ok (.dup, 1) := by decide +kernel
theorem dX12_number_45 : decode cX12_number 45 = .ok (.getfield 300, 3) := by decide +kernel
theorem dX12_number_48 : decode cX12_number 48 = .ok (.iconst 1, 1) := by decide +kernel
theorem dX12_number_49 : decode cX12_number 49 = .ok (.iadd, 1) := by decide +kernel
theorem dX12_number_50 : decode cX12_number 50 = .ok (.putfield 300, 3) := by decide +kernel
theorem dX12_number_53 : decode cX12_number 53 = .ok (.aload_n 0, 1) := by decide +kernel
theorem dX12_number_54 : decode cX12_number 54 = .ok (.aload_n 0, 1) := by decide +kernel
theorem dX12_number_55 : decode cX12_number 55 = .ok (.getfield 300, 3) := by decide +kernel
theorem dX12_number_58 : decode cX12_number 58 = .ok (.putfield 416, 3) := by decide +kernel
theorem dX12_number_61 : decode cX12_number 61 = .ok (.aload_n 0, 1) := by decide +kernel
theorem dX12_number_62 : decode cX12_number 62 = .ok (.invokevirtual 419, 3) := by decide +kernel
theorem dX12_number_65 : decode cX12_number 65 = .ok (.aload_n 0, 1) := by decide +kernel
theorem dX12_number_66 : decode cX12_number 66 = .ok (.aload_n 0, 1) := by decide +kernel
theorem dX12_number_67 : decode cX12_number 67 = .ok (.getfield 300, 3) := by decide +kernel
theorem dX12_number_70 : decode cX12_number 70 = .ok (.aload_n 0, 1) := by decide +kernel
theorem dX12_number_71 : decode cX12_number 71 = .ok (.getfield 416, 3) := by decide +kernel
theorem dX12_number_74 : decode cX12_number 74 = .ok (.isub, 1) := by decide +kernel
theorem dX12_number_75 : decode cX12_number 75 = .ok (.putfield 422, 3) := by decide +kernel
theorem dX12_number_78 : decode cX12_number 78 = .ok (.aload_n 0, 1) := by decide +kernel
theorem dX12_number_79 : decode cX12_number 79 = .ok (.getfield 422, 3) := by decide +kernel
theorem dX12_number_82 : decode cX12_number 82 = .ok (.istore_n 3, 1) := by decide +kernel
theorem dX12_number_83 : decode cX12_number 83 = .ok (.aload_n 0, 1) := by decide +kernel
theorem dX12_number_84 : decode cX12_number 84 = .ok (.invokevirtual 306, 3) := by decide +kernel
theorem dX12_number_87 : decode cX12_number 87 = .ok (.bipush 46, 2) := by decide +kernel
theorem dX12_number_89 : decode cX12_number 89 = .ok (.if_icmp .ne 33, 3) := by decide +kernel
theorem dX12_number_92 : decode cX12_number 92 = .ok (.aload_n 0, 1) := by decide +kernel
theorem dX12_number_93 : decode cX12_number 93 = .ok (.dup, 1) := by decide +kernel
theorem dX12_number_94 : decode cX12_number 94 = .ok (.getfield 300, 3) := by decide +kernel
theorem dX12_number_97 : decode cX12_number 97 = .ok (.iconst 1, 1) := by decide +kernel
theorem dX12_number_98 : decode cX12_number 98 = .ok (.iadd, 1) := by decide +kernel
theorem dX12_number_99 : decode cX12_number 99 = .ok (.putfield 300, 3) := by decide +kernel
theorem dX12_number_102 : decode cX12_number 102 = .ok (.aload_n 0, 1) := by decide +kernel
theorem dX12_number_103 : decode cX12_number 103 = .ok (.getfield 300, 3) := by decide +kernel
theorem dX12_number_106 : decode cX12_number 106 = .ok (.istore 4, 2) := by decide +kernel
theorem dX12_number_108 : decode cX12_number 108 = .ok (.aload_n 0, 1) := by decide +kernel
theorem dX12_number_109 : decode cX12_number 109 = .ok (.invokevirtual 419, 3) := by decide +kernel
theorem dX12_number_112 : decode cX12_number 112 = .ok (.iload_n 3, 1) := by decide +kernel
theorem dX12_number_113 : decode cX12_number 113 = .ok (.aload_n 0, 1) := by decide +kernel
theorem dX12_number_114 : decode cX12_number 114 = .ok (.getfield 300, 3) := by decide +kernel
theorem dX12_number_117 : decode cX12_number 117 = .ok (.iload 4, 2) := by decide +kernel
theorem dX12_number_119 : decode cX12_number 119 = .ok (.isub, 1) := by decide +kernel
theorem dX12_number_120 : decode cX12_number 120 = .ok (.iadd, 1) := by decide +kernel
theorem dX12_number_121 : decode cX12_number 121 = .ok (.istore_n 3, 1) := by decide +kernel
theorem dX12_number_122 : decode cX12_number 122 = .ok (.aload_n 0, 1) := by decide +kernel
theorem dX12_number_123 : decode cX12_number 123 = .ok (.aload_n 0, 1) := by decide +kernel
theorem dX12_number_124 : decode cX12_number 124 = .ok (.getfield 300, 3) := by decide +kernel
theorem dX12_number_127 : decode cX12_number 127 = .ok (.putfield 425, 3) := by decide +kernel
theorem dX12_number_130 : decode cX12_number 130 = .ok (.iload_n 3, 1) := by decide +kernel
theorem dX12_number_131 : decode cX12_number 131 = .ok (.ifCond .le 7, 3) := by decide +kernel
theorem dX12_number_134 : decode cX12_number 134 = .ok (.iconst 1, 1) := by decide +kernel
theorem dX12_number_135 : decode cX12_number 135 = .ok (.goto 4, 3) := by decide +kernel
theorem dX12_number_138 : decode cX12_number 138 = .ok (.iconst 0, 1) := by decide +kernel
theorem dX12_number_139 : decode cX12_number 139 = .ok (.istore 4, 2) := by decide +kernel
theorem dX12_number_141 : decode cX12_number 141 = .ok (.lconst 0, 1) := by decide +kernel
theorem dX12_number_142 : decode cX12_number 142 = .ok (.lstore 5, 2) := by decide +kernel
theorem dX12_number_144 : decode cX12_number 144 = .ok (.aload_n 0, 1) := by decide +kernel
theorem dX12_number_145 : decode cX12_number 145 = .ok (.invokevirtual 306, 3) := by decide +kernel
theorem dX12_number_148 : decode cX12_number 148 = .ok (.bipush 101, 2) := by decide +kernel
theorem dX12_number_150 : decode cX12_number 150 = .ok (.if_icmp .eq 12, 3) := by decide +kernel
theorem dX12_number_153 : decode cX12_number 153 = .ok (.aload_n 0, 1) := by decide +kernel
theorem dX12_number_154 : decode cX12_number 154 = .ok (.invokevirtual 306, 3) := by decide +kernel
theorem dX12_number_157 : decode cX12_number 157 = .ok (.bipush 69, 2) := by decide +kernel
theorem dX12_number_159 : decode cX12_number 159 = .ok (.if_icmp .ne 146, 3) := by decide +kernel
theorem dX12_number_162 : decode cX12_number 162 = .ok (.aload_n 0, 1) := by decide +kernel
theorem dX12_number_163 : decode cX12_number 163 = .ok (.dup, 1) := by decide +kernel
theorem dX12_number_164 : decode cX12_number 164 = .ok (.getfield 300, 3) := by decide +kernel
theorem dX12_number_167 : decode cX12_number 167 = .ok (.iconst 1, 1) := by decide +kernel
theorem dX12_number_168 : decode cX12_number 168 = .ok (.iadd, 1) := by decide +kernel
theorem dX12_number_169 : decode cX12_number 169 = .ok (.putfield 300, 3) := by decide +kernel
theorem dX12_number_172 : decode cX12_number 172 = .ok (.aload_n 0, 1) := by decide +kernel
theorem dX12_number_173 : decode cX12_number 173 = .ok (.invokevirtual 306, 3) := by decide +kernel
theorem dX12_number_176 : decode cX12_number 176 = .ok (.bipush 45, 2) := by decide +kernel
theorem dX12_number_178 : decode cX12_number 178 = .ok (.if_icmp .ne 7, 3) := by decide +kernel
theorem dX12_number_181 : decode cX12_number 181 = .ok (.iconst 1, 1) := by decide +kernel
theorem dX12_number_182 : decode cX12_number 182 = .ok (.goto 4, 3) := by decide +kernel
theorem dX12_number_185 : decode cX12_number 185 = .ok (.iconst 0, 1) := by decide +kernel
theorem dX12_number_186 : decode cX12_number 186 = .ok (.istore 7, 2) := by decide +kernel
theorem dX12_number_188 : decode cX12_number 188 = .ok (.aload_n 0, 1) := by decide +kernel
theorem dX12_number_189 : decode cX12_number 189 = .ok (.invokevirtual 306, 3) := by decide +kernel
theorem dX12_number_192 : decode cX12_number 192 = .ok (.invokestatic 324, 3) := by decide +kernel
theorem dX12_number_195 : decode cX12_number 195 = .ok (.ifCond .eq 13, 3) := by decide +kernel
theorem dX12_number_198 : decode cX12_number 198 = .ok (.aload_n 0, 1) := by decide +kernel
theorem dX12_number_199 : decode cX12_number 199 = .ok (.dup, 1) := by decide +kernel
theorem dX12_number_200 : decode cX12_number 200 = .ok (.getfield 300, 3) := by decide +kernel
theorem dX12_number_203 : decode cX12_number 203 = .ok (.iconst 1, 1) := by decide +kernel
theorem dX12_number_204 : decode cX12_number 204 = .ok (.iadd, 1) := by decide +kernel
theorem dX12_number_205 : decode cX12_number 205 = .ok (.putfield 300, 3) := by decide +kernel
theorem dX12_number_208 : decode cX12_number 208 = .ok (.aload_n 0, 1) := by decide +kernel
theorem dX12_number_209 : decode cX12_number 209 = .ok (.getfield 300, 3) := by decide +kernel
theorem dX12_number_212 : decode cX12_number 212 = .ok (.istore 8, 2) := by decide +kernel
theorem dX12_number_214 : decode cX12_number 214 = .ok (.aload_n 0, 1) := by decide +kernel
theorem dX12_number_215 : decode cX12_number 215 = .ok (.invokevirtual 306, 3) := by decide +kernel
theorem dX12_number_218 : decode cX12_number 218 = .ok (.invokestatic 321, 3) := by decide +kernel
theorem dX12_number_221 : decode cX12_number 221 = .ok (.ifCond .eq 48, 3) := by decide +kernel
theorem dX12_number_224 : decode cX12_number 224 = .ok (.lload 5, 2) := by decide +kernel
theorem dX12_number_226 : decode cX12_number 226 = .ok (.ldc2_w 428, 3) := by decide +kernel
theorem dX12_number_229 : decode cX12_number 229 = .ok (.lcmp, 1) := by decide +kernel
theorem dX12_number_230 : decode cX12_number 230 = .ok (.ifCond .ge 22, 3) := by decide +kernel
theorem dX12_number_233 : decode cX12_number 233 = .ok (.ldc2_w 269, 3) := by decide +kernel
theorem dX12_number_236 : decode cX12_number 236 = .ok (.lload 5, 2) := by decide +kernel
theorem dX12_number_238 : decode cX12_number 238 = .ok (.lmul, 1) := by decide +kernel
theorem dX12_number_239 : decode cX12_number 239 = .ok (.aload_n 0, 1) := by decide +kernel
theorem dX12_number_240 : decode cX12_number 240 = .ok (.invokevirtual 306, 3) := by decide +kernel
theorem dX12_number_243 : decode cX12_number 243 = .ok (.i2l, 1) := by decide +kernel
theorem dX12_number_244 : decode cX12_number 244 = .ok (.ladd, 1) := by decide +kernel
theorem dX12_number_245 : decode cX12_number 245 = .ok (.ldc2_w 430, 3) := by decide +kernel
theorem dX12_number_248 : decode cX12_number 248 = .ok (.lsub, 1) := by decide +kernel
theorem dX12_number_249 : decode cX12_number 249 = .ok (.goto 5, 3) := by decide +kernel
theorem dX12_number_252 : decode cX12_number 252 = .ok (.lload 5, 2) := by decide +kernel
theorem dX12_number_254 : decode cX12_number 254 = .ok (.lstore 5, 2) := by decide +kernel
theorem dX12_number_256 : decode cX12_number 256 = .ok (.aload_n 0, 1) := by decide +kernel
theorem dX12_number_257 : decode cX12_number 257 = .ok (.dup, 1) := by decide +kernel
theorem dX12_number_258 : decode cX12_number 258 = .ok (.getfield 300, 3) := by decide +kernel
theorem dX12_number_261 : decode cX12_number 261 = .ok (.iconst 1, 1) := by decide +kernel
theorem dX12_number_262 : decode cX12_number 262 = .ok (.iadd, 1) := by decide +kernel
theorem dX12_number_263 : decode cX12_number 263 = .ok (.putfield 300, 3) := by decide +kernel
theorem dX12_number_266 : decode cX12_number 266 = .ok (.goto (-52), 3) := by decide +kernel
theorem dX12_number_269 : decode cX12_number 269 = .ok (.iload 4, 2) := by decide +kernel
theorem dX12_number_271 : decode cX12_number 271 = .ok (.ifCond .eq 16, 3) := by decide +kernel
theorem dX12_number_274 : decode cX12_number 274 = .ok (.aload_n 0, 1) := by decide +kernel
theorem dX12_number_275 : decode cX12_number 275 = .ok (.getfield 300, 3) := by decide +kernel
theorem dX12_number_278 : decode cX12_number 278 = .ok (.iload 8, 2) := by decide +kernel
theorem dX12_number_280 : decode cX12_number 280 = .ok (.if_icmp .le 7, 3) := by decide +kernel
theorem dX12_number_283 : decode cX12_number 283 = .ok (.iconst 1, 1) := by decide +kernel
theorem dX12_number_284 : decode cX12_number 284 = .ok (.goto 4, 3) := by decide +kernel
theorem dX12_number_287 : decode cX12_number 287 = .ok (.iconst 0, 1) := by decide +kernel
theorem dX12_number_288 : decode cX12_number 288 = .ok (.istore 4, 2) := by decide +kernel
theorem dX12_number_290 : decode cX12_number 290 = .ok (.iload 7, 2) := by decide +kernel
theorem dX12_number_292 : decode cX12_number 292 = .ok (.ifCond .eq 9, 3) := by decide +kernel
theorem dX12_number_295 : decode cX12_number 295 = .ok (.lload 5, 2) := by decide +kernel
theorem dX12_number_297 : decode cX12_number 297 = .ok (.lneg, 1) := by decide +kernel
theorem dX12_number_298 : decode cX12_number 298 = .ok (.goto 5, 3) := by decide +kernel
theorem dX12_number_301 : decode cX12_number 301 = .ok (.lload 5, 2) := by decide +kernel
theorem dX12_number_303 : decode cX12_number 303 = .ok (.lstore 5, 2) := by decide +kernel
theorem dX12_number_305 : decode cX12_number 305 = .ok (.aload_n 0, 1) := by decide +kernel
theorem dX12_number_306 : decode cX12_number 306 = .ok (.invokevirtual 306, 3) := by decide +kernel
theorem dX12_number_309 : decode cX12_number 309 = .ok (.istore 7, 2) := by decide +kernel
theorem dX12_number_311 : decode cX12_number 311 = .ok (.iload 7, 2) := by decide +kernel
theorem dX12_number_313 : decode cX12_number 313 = .ok (.iconst (-1), 1) := by decide +kernel
theorem dX12_number_314 : decode cX12_number 314 = .ok (.if_icmp .eq 38, 3) := by decide +kernel
theorem dX12_number_317 : decode cX12_number 317 = .ok (.iload 7, 2) := by decide +kernel
theorem dX12_number_319 : decode cX12_number 319 = .ok (.invokestatic 314, 3) := by decide +kernel
theorem dX12_number_322 : decode cX12_number 322 = .ok (.ifCond .ne 26, 3) := by decide +kernel
theorem dX12_number_325 : decode cX12_number 325 = .ok (.iload 7, 2) := by decide +kernel
theorem dX12_number_327 : decode cX12_number 327 = .ok (.invokestatic 321, 3) := by decide +kernel
theorem dX12_number_330 : decode cX12_number 330 = .ok (.ifCond .ne 18, 3) := by decide +kernel
theorem dX12_number_333 : decode cX12_number 333 = .ok (.iload 7, 2) := by decide +kernel
theorem dX12_number_335 : decode cX12_number 335 = .ok (.invokestatic 324, 3) := by decide +kernel
theorem dX12_number_338 : decode cX12_number 338 = .ok (.ifCond .ne 10, 3) := by decide +kernel
theorem dX12_number_341 : decode cX12_number 341 = .ok (.iload 7, 2) := by decide +kernel
theorem dX12_number_343 : decode cX12_number 343 = .ok (.bipush 46, 2) := by decide +kernel
theorem dX12_number_345 : decode cX12_number 345 = .ok (.if_icmp .ne 7, 3) := by decide +kernel
theorem dX12_number_348 : decode cX12_number 348 = .ok (.iconst 1, 1) := by decide +kernel
theorem dX12_number_349 : decode cX12_number 349 = .ok (.goto 4, 3) := by decide +kernel
theorem dX12_number_352 : decode cX12_number 352 = .ok (.iconst 0, 1) := by decide +kernel
theorem dX12_number_353 : decode cX12_number 353 = .ok (.istore 8, 2) := by decide +kernel
theorem dX12_number_355 : decode cX12_number 355 = .ok (.iload 4, 2) := by decide +kernel
theorem dX12_number_357 : decode cX12_number 357 = .ok (.ifCond .eq 8, 3) := by decide +kernel
theorem dX12_number_360 : decode cX12_number 360 = .ok (.iload 8, 2) := by decide +kernel
theorem dX12_number_362 : decode cX12_number 362 = .ok (.ifCond .eq 10, 3) := by decide +kernel
theorem dX12_number_365 : decode cX12_number 365 = .ok (.aload_n 0, 1) := by decide +kernel
theorem dX12_number_366 : decode cX12_number 366 = .ok (.iconst 4, 1) := by decide +kernel
theorem dX12_number_367 : decode cX12_number 367 = .ok (.iload_n 1, 1) := by decide +kernel
theorem dX12_number_368 : decode cX12_number 368 = .ok (.invokevirtual 317, 3) := by decide +kernel
theorem dX12_number_371 : decode cX12_number 371 = .ok (.ireturn, 1) := by decide +kernel
theorem dX12_number_372 : decode cX12_number 372 = .ok (.aload_n 0, 1) := by decide +kernel
theorem dX12_number_373 : decode cX12_number 373 = .ok (.aload_n 0, 1) := by decide +kernel
theorem dX12_number_374 : decode cX12_number 374 = .ok (.getfield 422, 3) := by decide +kernel
theorem dX12_number_377 : decode cX12_number 377 = .ok (.i2l, 1) := by decide +kernel
theorem dX12_number_378 : decode cX12_number 378 = .ok (.lload 5, 2) := by decide +kernel
theorem dX12_number_380 : decode cX12_number 380 = .ok (.ladd, 1) := by decide +kernel
theorem dX12_number_381 : decode cX12_number 381 = .ok (.aload_n 0, 1) := by decide +kernel
theorem dX12_number_382 : decode cX12_number 382 = .ok (.getfield 261, 3) := by decide +kernel
theorem dX12_number_385 : decode cX12_number 385 = .ok (.i2l, 1) := by decide +kernel
theorem dX12_number_386 : decode cX12_number 386 = .ok (.ladd, 1) := by decide +kernel
theorem dX12_number_387 : decode cX12_number 387 = .ok (.invokevirtual 432, 3) := by decide +kernel
theorem dX12_number_390 : decode cX12_number 390 = .ok (.aload_n 0, 1) := by decide +kernel
theorem dX12_number_391 : decode cX12_number 391 = .ok (.getfield 409, 3) := by decide +kernel
theorem dX12_number_394 : decode cX12_number 394 = .ok (.ldc2_w 436, 3) := by decide +kernel
theorem dX12_number_397 : decode cX12_number 397 = .ok (.lcmp, 1) := by decide +kernel
theorem dX12_number_398 : decode cX12_number 398 = .ok (.ifCond .le 10, 3) := by decide +kernel
theorem dX12_number_401 : decode cX12_number 401 = .ok (.aload_n 0, 1) := by decide +kernel
theorem dX12_number_402 : decode cX12_number 402 = .ok (.iconst 5, 1) := by decide +kernel
theorem dX12_number_403 : decode cX12_number 403 = .ok (.iload_n 1, 1) := by decide +kernel
theorem dX12_number_404 : decode cX12_number 404 = .ok (.invokevirtual 317, 3) := by decide +kernel
theorem dX12_number_407 : decode cX12_number 407 = .ok (.ireturn, 1) := by decide +kernel
theorem dX12_number_408 : decode cX12_number 408 = .ok (.aload_n 0, 1) := by decide +kernel
theorem dX12_number_409 : decode cX12_number 409 = .ok (.iload_n 2, 1) := by decide +kernel
theorem dX12_number_410 : decode cX12_number 410 = .ok (.bipush 45, 2) := by decide +kernel
theorem dX12_number_412 : decode cX12_number 412 = .ok (.if_icmp .ne 11, 3) := by decide +kernel
theorem dX12_number_415 : decode cX12_number 415 = .ok (.aload_n 0, 1) := by decide +kernel
theorem dX12_number_416 : decode cX12_number 416 = .ok (.getfield 409, 3) := by decide +kernel
theorem dX12_number_419 : decode cX12_number 419 = .ok (.lneg, 1) := by decide +kernel
theorem dX12_number_420 : decode cX12_number 420 = .ok (.goto 7, 3) := by decide +kernel
theorem dX12_number_423 : decode cX12_number 423 = .ok (.aload_n 0, 1) := by decide +kernel
theorem dX12_number_424 : decode cX12_number 424 = .ok (.getfield 409, 3) := by decide +kernel
theorem dX12_number_427 : decode cX12_number 427 = .ok (.putfield 409, 3) := by decide +kernel
theorem dX12_number_430 : decode cX12_number 430 = .ok (.iconst 1, 1) := by decide +kernel
theorem dX12_number_431 : decode cX12_number 431 = .ok (.ireturn, 1) := by decide +kernel
theorem dX12_round_0 : decode cX12_round 0 = .ok (.lconst 0, 1) := by decide +kernel
theorem dX12_round_1 : decode cX12_round 1 = .ok (.lstore_n 3, 1) := by decide +kernel
theorem dX12_round_2 : decode cX12_round 2 = .ok (.lconst 0, 1) := by decide +kernel
theorem dX12_round_3 : decode cX12_round 3 = .ok (.lstore 5, 2) := by decide +kernel
theorem dX12_round_5 : decode cX12_round 5 = .ok (.iconst (-1), 1) := by decide +kernel
theorem dX12_round_6 : decode cX12_round 6 = .ok (.istore 7, 2) := by decide +kernel
theorem dX12_round_8 : decode cX12_round 8 = .ok (.iconst 0, 1) := by decide +kernel
theorem dX12_round_9 : decode cX12_round 9 = .ok (.istore 8, 2) := by decide +kernel
theorem dX12_round_11 : decode cX12_round 11 = .ok (.aload_n 0, 1) := by decide +kernel
theorem dX12_round_12 : decode cX12_round 12 = .ok (.getfield 416, 3) := by decide +kernel
theorem dX12_round_15 : decode cX12_round 15 = .ok (.istore 9, 2) := by decide +kernel
theorem dX12_round_17 : decode cX12_round 17 = .ok (.iload 9, 2) := by decide +kernel
theorem dX12_round_19 : decode cX12_round 19 = .ok (.aload_n 0, 1) := by decide +kernel
theorem dX12_round_20 : decode cX12_round 20 = .ok (.getfield 425, 3) := by decide +kernel
theorem dX12_round_23 : decode cX12_round 23 = .ok (.if_icmp .ge 105, 3) := by decide +kernel
theorem dX12_round_26 : decode cX12_round 26 = .ok (.aload_n 0, 1) := by decide +kernel
theorem dX12_round_27 : decode cX12_round 27 = .ok (.getfield 8, 3) := by decide +kernel
theorem dX12_round_30 : decode cX12_round 30 = .ok (.iload 9, 2) := by decide +kernel
theorem dX12_round_32 : decode cX12_round 32 = .ok (.baload, 1) := by decide +kernel
theorem dX12_round_33 : decode cX12_round 33 = .ok (.bipush 46, 2) := by decide +kernel
theorem dX12_round_35 : decode cX12_round 35 = .ok (.if_icmp .ne 6, 3) := by decide +kernel
theorem dX12_round_38 : decode cX12_round 38 = .ok (.goto 84, 3) := by decide +kernel
theorem dX12_round_41 : decode cX12_round 41 = .ok (.aload_n 0, 1) := by decide +kernel
theorem dX12_round_42 : decode cX12_round 42 = .ok (.getfield 8, 3) := by decide +kernel
theorem dX12_round_45 : decode cX12_round 45 = .ok (.iload 9, 2) := by decide +kernel
theorem dX12_round_47 : decode cX12_round 47 = .ok (.baload, 1) := by decide +kernel
theorem dX12_round_48 : decode cX12_round 48 = .ok (.bipush 48, 2) := by decide +kernel
theorem dX12_round_50 : decode cX12_round 50 = .ok (.isub, 1) := by decide +kernel
theorem dX12_round_51 : decode cX12_round 51 = .ok (.istore 10, 2) := by decide +kernel
theorem dX12_round_53 : decode cX12_round 53 = .ok (.lload 5, 2) := by decide +kernel
theorem dX12_round_55 : decode cX12_round 55 = .ok (.lload_n 1, 1) := by decide +kernel
theorem dX12_round_56 : decode cX12_round 56 = .ok (.lcmp, 1) := by decide +kernel
theorem dX12_round_57 : decode cX12_round 57 = .ok (.ifCond .ge 28, 3) := by decide +kernel
theorem dX12_round_60 : decode cX12_round 60 = .ok (.lload_n 3, 1) := by decide +kernel
theorem dX12_round_61 : decode cX12_round 61 = .ok (.ldc2_w 438, 3) := by decide +kernel
theorem dX12_round_64 : decode cX12_round 64 = .ok (.lcmp, 1) := by decide +kernel
theorem dX12_round_65 : decode cX12_round 65 = .ok (.ifCond .ge 15, 3) := by decide +kernel
theorem dX12_round_68 : decode cX12_round 68 = .ok (.ldc2_w 269, 3) := by decide +kernel
theorem dX12_round_71 : decode cX12_round 71 = .ok (.lload_n 3, 1) := by decide +kernel
theorem dX12_round_72 : decode cX12_round 72 = .ok (.lmul, 1) := by decide +kernel
theorem dX12_round_73 : decode cX12_round 73 = .ok (.iload 10, 2) := by decide +kernel
theorem dX12_round_75 : decode cX12_round 75 = .ok (.i2l, 1) := by decide +kernel
theorem dX12_round_76 : decode cX12_round 76 = .ok (.ladd, 1) := by decide +kernel
theorem dX12_round_77 : decode cX12_round 77 = .ok (.goto 4, 3) := by decide +kernel
theorem dX12_round_80 : decode cX12_round 80 = .ok (.lload_n 3, 1) := by decide +kernel
theorem dX12_round_81 : decode cX12_round 81 = .ok (.lstore_n 3, 1) := by decide +kernel
theorem dX12_round_82 : decode cX12_round 82 = .ok (.goto 34, 3) := by decide +kernel
theorem dX12_round_85 : decode cX12_round 85 = .ok (.lload 5, 2) := by decide +kernel
theorem dX12_round_87 : decode cX12_round 87 = .ok (.lload_n 1, 1) := by decide +kernel
theorem dX12_round_88 : decode cX12_round 88 = .ok (.lcmp, 1) := by decide +kernel
theorem dX12_round_89 : decode cX12_round 89 = .ok (.ifCond .ne 10, 3) := by decide +kernel
theorem dX12_round_92 : decode cX12_round 92 = .ok (.iload 10, 2) := by decide +kernel
theorem dX12_round_94 : decode cX12_round 94 = .ok (.istore 7, 2) := by decide +kernel
theorem dX12_round_96 : decode cX12_round 96 = .ok (.goto 20, 3) := by decide +kernel
theorem dX12_round_99 : decode cX12_round 99 = .ok (.iload 8, 2) := by decide +kernel
theorem dX12_round_101 : decode cX12_round 101 = .ok (.ifCond .ne 8, 3) := by decide +kernel
theorem dX12_round_104 : decode cX12_round 104 = .ok (.iload 10, 2) := by decide +kernel
theorem dX12_round_106 : decode cX12_round 106 = .ok (.ifCond .le 7, 3) := by decide +kernel
theorem dX12_round_109 : decode cX12_round 109 = .ok (.iconst 1, 1) := by decide +kernel
theorem dX12_round_110 : decode cX12_round 110 = .ok (.goto 4, 3) := by decide +kernel
theorem dX12_round_113 : decode cX12_round 113 = .ok (.iconst 0, 1) := by decide +kernel
theorem dX12_round_114 : decode cX12_round 114 = .ok (.istore 8, 2) := by decide +kernel
theorem dX12_round_116 : decode cX12_round 116 = .ok (.lload 5, 2) := by decide +kernel
theorem dX12_round_118 : decode cX12_round 118 = .ok (.lconst 1, 1) := by decide +kernel
theorem dX12_round_119 : decode cX12_round 119 = .ok (.ladd, 1) := by decide +kernel
theorem dX12_round_120 : decode cX12_round 120 = .ok (.lstore 5, 2) := by decide +kernel
theorem dX12_round_122 : decode cX12_round 122 = .ok (.iinc 9 1, 3) := by decide +kernel
theorem dX12_round_125 : decode cX12_round 125 = .ok (.goto (-108), 3) := by decide +kernel
theorem dX12_round_128 : decode cX12_round 128 = .ok (.lload 5, 2) := by decide +kernel
theorem dX12_round_130 : decode cX12_round 130 = .ok (.lload_n 1, 1) := by decide +kernel
theorem dX12_round_131 : decode cX12_round 131 = .ok (.lcmp, 1) := by decide +kernel
theorem dX12_round_132 : decode cX12_round 132 = .ok (.ifCond .ge 32, 3) := by decide +kernel
theorem dX12_round_135 : decode cX12_round 135 = .ok (.lload_n 3, 1) := by decide +kernel
theorem dX12_round_136 : decode cX12_round 136 = .ok (.lconst 0, 1) := by decide +kernel
theorem dX12_round_137 : decode cX12_round 137 = .ok (.lcmp, 1) := by decide +kernel
theorem dX12_round_138 : decode cX12_round 138 = .ok (.ifCond .le 26, 3) := by decide +kernel
theorem dX12_round_141 : decode cX12_round 141 = .ok (.lload_n 3, 1) := by decide +kernel
theorem dX12_round_142 : decode cX12_round 142 = .ok (.ldc2_w 438, 3) := by decide +kernel
theorem dX12_round_145 : decode cX12_round 145 = .ok (.lcmp, 1) := by decide +kernel
theorem dX12_round_146 : decode cX12_round 146 = .ok (.ifCond .ge 18, 3) := by decide +kernel
theorem dX12_round_149 : decode cX12_round 149 = .ok (.ldc2_w 269, 3) := by decide +kernel
theorem dX12_round_152 : decode cX12_round 152 = .ok (.lload_n 3, 1) := by decide +kernel
theorem dX12_round_153 : decode cX12_round 153 = .ok (.lmul, 1) := by decide +kernel
theorem dX12_round_154 : decode cX12_round 154 = .ok (.lstore_n 3, 1) := by decide +kernel
theorem dX12_round_155 : decode cX12_round 155 = .ok (.lload 5, 2) := by decide +kernel
theorem dX12_round_157 : decode cX12_round 157 = .ok (.lconst 1, 1) := by decide +kernel
theorem dX12_round_158 : decode cX12_round 158 = .ok (.ladd, 1) := by decide +kernel
theorem dX12_round_159 : decode cX12_round 159 = .ok (.lstore 5, 2) := by decide +kernel
theorem dX12_round_161 : decode cX12_round 161 = .ok (.goto (-33), 3) := by decide +kernel
theorem dX12_round_164 : decode cX12_round 164 = .ok (.iload 7, 2) := by decide +kernel
theorem dX12_round_166 : decode cX12_round 166 = .ok (.iconst 5, 1) := by decide +kernel
theorem dX12_round_167 : decode cX12_round 167 = .ok (.if_icmp .gt 22, 3) := by decide +kernel
theorem dX12_round_170 : decode cX12_round 170 = .ok (.iload 7, 2) := by decide +kernel
theorem dX12_round_172 : decode cX12_round 172 = .ok (.iconst 5, 1) := by decide +kernel
theorem dX12_round_173 : decode cX12_round 173 = .ok (.if_icmp .ne 20, 3) := by decide +kernel
theorem dX12_round_176 : decode cX12_round 176 = .ok (.iload 8, 2) := by decide +kernel
theorem dX12_round_178 : decode cX12_round 178 = .ok (.ifCond .ne 11, 3) := by decide +kernel
theorem dX12_round_181 : decode cX12_round 181 = .ok (.lload_n 3, 1) := by decide +kernel
theorem dX12_round_182 : decode cX12_round 182 = .ok (.lconst 1, 1) := by decide +kernel
theorem dX12_round_183 : decode cX12_round 183 = .ok (.land, 1) := by decide +kernel
theorem dX12_round_184 : decode cX12_round 184 = .ok (.lconst 1, 1) := by decide +kernel
theorem dX12_round_185 : decode cX12_round 185 = .ok (.lcmp, 1) := by decide +kernel
theorem dX12_round_186 : decode cX12_round 186 = .ok (.ifCond .ne 7, 3) := by decide +kernel
theorem dX12_round_189 : decode cX12_round 189 = .ok (.iconst 1, 1) := by decide +kernel
theorem dX12_round_190 : decode cX12_round 190 = .ok (.goto 4, 3) := by decide +kernel
theorem dX12_round_193 : decode cX12_round 193 = .ok (.iconst 0, 1) := by decide +kernel
theorem dX12_round_194 : decode cX12_round 194 = .ok (.istore 9, 2) := by decide +kernel
theorem dX12_round_196 : decode cX12_round 196 = .ok (.aload_n 0, 1) := by decide +kernel
theorem dX12_round_197 : decode cX12_round 197 = .ok (.iload 9, 2) := by decide +kernel
theorem dX12_round_199 : decode cX12_round 199 = .ok (.ifCond .eq 9, 3) := by decide +kernel
theorem dX12_round_202 : decode cX12_round 202 = .ok (.lload_n 3, 1) := by decide +kernel
theorem dX12_round_203 : decode cX12_round 203 = .ok (.lconst 1, 1) := by decide +kernel
theorem dX12_round_204 : decode cX12_round 204 = .ok (.ladd, 1) := by decide +kernel
theorem dX12_round_205 : decode cX12_round 205 = .ok (.goto 4, 3) := by decide +kernel
theorem dX12_round_208 : decode cX12_round 208 = .ok (.lload_n 3, 1) := by decide +kernel
theorem dX12_round_209 : decode cX12_round 209 = .ok (.putfield 409, 3) := by decide +kernel
theorem dX12_round_212 : decode cX12_round 212 = .ok (.return_, 1) := by decide +kernel
theorem dX12_reads_0 : decode cX12_reads 0 = .ok (.aload_n 0, 1) := by decide +kernel
theorem dX12_reads_1 : decode cX12_reads 1 = .ok (.iconst 0, 1) := by decide +kernel
theorem dX12_reads_2 : decode cX12_reads 2 = .ok (.putfield 271, 3) := by decide +kernel
theorem dX12_reads_5 : decode cX12_reads 5 = .ok (.aload_n 0, 1) := by decide +kernel
theorem dX12_reads_6 : decode cX12_reads 6 = .ok (.aload_n 0, 1) := by decide +kernel
theorem dX12_reads_7 : decode cX12_reads 7 = .ok (.getfield 274, 3) := by decide +kernel
theorem dX12_reads_10 : decode cX12_reads 10 = .ok (.putfield 303, 3) := by decide +kernel
theorem dX12_reads_13 : decode cX12_reads 13 = .ok (.aload_n 0, 1) := by decide +kernel
theorem dX12_reads_14 : decode cX12_reads 14 = .ok (.iconst 0, 1) := by decide +kernel
theorem dX12_reads_15 : decode cX12_reads 15 = .ok (.putfield 274, 3) := by decide +kernel
theorem dX12_reads_18 : decode cX12_reads 18 = .ok (.aload_n 0, 1) := by decide +kernel
theorem dX12_reads_19 : decode cX12_reads 19 = .ok (.iload_n 1, 1) := by decide +kernel
theorem dX12_reads_20 : decode cX12_reads 20 = .ok (.invokestatic 440, 3) := by decide +kernel
theorem dX12_reads_23 : decode cX12_reads 23 = .ok (.ifCond .ne 7, 3) := by decide +kernel
theorem dX12_reads_26 : decode cX12_reads 26 = .ok (.iconst 1, 1) := by decide +kernel
theorem dX12_reads_27 : decode cX12_reads 27 = .ok (.goto 4, 3) := by decide +kernel
theorem dX12_reads_30 : decode cX12_reads 30 = .ok (.iconst 0, 1) := by decide +kernel
theorem dX12_reads_31 : decode cX12_reads 31 = .ok (.iconst 1, 1) := by decide +kernel
theorem dX12_reads_32 : decode cX12_reads 32 = .ok (.invokevirtual 277, 3) := by decide +kernel
theorem dX12_reads_35 : decode cX12_reads 35 = .ok (.ifCond .eq 5, 3) := by decide +kernel
theorem dX12_reads_38 : decode cX12_reads 38 = .ok (.iconst 0, 1) := by decide +kernel
theorem dX12_reads_39 : decode cX12_reads 39 = .ok (.ireturn, 1) := by decide +kernel
theorem dX12_reads_40 : decode cX12_reads 40 = .ok (.iload_n 2, 1) := by decide +kernel
theorem dX12_reads_41 : decode cX12_reads 41 = .ok (.ifCond .eq 10, 3) := by decide +kernel
theorem dX12_reads_44 : decode cX12_reads 44 = .ok (.aload_n 0, 1) := by decide +kernel
theorem dX12_reads_45 : decode cX12_reads 45 = .ok (.invokevirtual 443, 3) := by decide +kernel
theorem dX12_reads_48 : decode cX12_reads 48 = .ok (.goto 7, 3) := by decide +kernel
theorem dX12_reads_51 : decode cX12_reads 51 = .ok (.aload_n 0, 1) := by decide +kernel
theorem dX12_reads_52 : decode cX12_reads 52 = .ok (.invokevirtual 446, 3) := by decide +kernel
theorem dX12_reads_55 : decode cX12_reads 55 = .ok (.istore_n 3, 1) := by decide +kernel
theorem dX12_reads_56 : decode cX12_reads 56 = .ok (.aload_n 0, 1) := by decide +kernel
theorem dX12_reads_57 : decode cX12_reads 57 = .ok (.iload_n 1, 1) := by decide +kernel
theorem dX12_reads_58 : decode cX12_reads 58 = .ok (.invokevirtual 358, 3) := by decide +kernel
theorem dX12_reads_61 : decode cX12_reads 61 = .ok (.aload_n 0, 1) := by decide +kernel
theorem dX12_reads_62 : decode cX12_reads 62 = .ok (.iload_n 3, 1) := by decide +kernel
theorem dX12_reads_63 : decode cX12_reads 63 = .ok (.ifCond .ne 7, 3) := by decide +kernel
theorem dX12_reads_66 : decode cX12_reads 66 = .ok (.iconst 1, 1) := by decide +kernel
theorem dX12_reads_67 : decode cX12_reads 67 = .ok (.goto 4, 3) := by decide +kernel
theorem dX12_reads_70 : decode cX12_reads 70 = .ok (.iconst 0, 1) := by decide +kernel
theorem dX12_reads_71 : decode cX12_reads 71 = .ok (.iconst 2, 1) := by decide +kernel
theorem dX12_reads_72 : decode cX12_reads 72 = .ok (.invokevirtual 277, 3) := by decide +kernel
theorem dX12_reads_75 : decode cX12_reads 75 = .ok (.ifCond .eq 5, 3) := by decide +kernel
theorem dX12_reads_78 : decode cX12_reads 78 = .ok (.iconst 0, 1) := by decide +kernel
theorem dX12_reads_79 : decode cX12_reads 79 = .ok (.ireturn, 1) := by decide +kernel
theorem dX12_reads_80 : decode cX12_reads 80 = .ok (.aload_n 0, 1) := by decide +kernel
theorem dX12_reads_81 : decode cX12_reads 81 = .ok (.iconst 0, 1) := by decide +kernel
theorem dX12_reads_82 : decode cX12_reads 82 = .ok (.putfield 294, 3) := by decide +kernel
theorem dX12_reads_85 : decode cX12_reads 85 = .ok (.aload_n 0, 1) := by decide +kernel
theorem dX12_reads_86 : decode cX12_reads 86 = .ok (.iconst 0, 1) := by decide +kernel
theorem dX12_reads_87 : decode cX12_reads 87 = .ok (.putfield 297, 3) := by decide +kernel
theorem dX12_reads_90 : decode cX12_reads 90 = .ok (.aload_n 0, 1) := by decide +kernel
theorem dX12_reads_91 : decode cX12_reads 91 = .ok (.bipush 32, 2) := by decide +kernel
theorem dX12_reads_93 : decode cX12_reads 93 = .ok (.iload_n 1, 1) := by decide +kernel
theorem dX12_reads_94 : decode cX12_reads 94 = .ok (.invokevirtual 449, 3) := by decide +kernel
theorem dX12_reads_97 : decode cX12_reads 97 = .ok (.aload_n 0, 1) := by decide +kernel
theorem dX12_reads_98 : decode cX12_reads 98 = .ok (.getfield 23, 3) := by decide +kernel
theorem dX12_reads_101 : decode cX12_reads 101 = .ok (.sipush 2048, 3) := by decide +kernel
theorem dX12_reads_104 : decode cX12_reads 104 = .ok (.iload_n 1, 1) := by decide +kernel
theorem dX12_reads_105 : decode cX12_reads 105 = .ok (.imul, 1) := by decide +kernel
theorem dX12_reads_106 : decode cX12_reads 106 = .ok (.iaload, 1) := by decide +kernel
theorem dX12_reads_107 : decode cX12_reads 107 = .ok (.ireturn, 1) := by decide +kernel
theorem dX12_readWords_0 : decode cX12_readWords 0 = .ok (.aload_n 0, 1) := by decide +kernel
theorem dX12_readWords_1 : decode cX12_readWords 1 = .ok (.iload_n 1, 1) := by decide +kernel
theorem dX12_readWords_2 : decode cX12_readWords 2 = .ok (.iconst 1, 1) := by decide +kernel
theorem dX12_readWords_3 : decode cX12_readWords 3 = .ok (.invokevirtual 453, 3) := by decide +kernel
theorem dX12_readWords_6 : decode cX12_readWords 6 = .ok (.ireturn, 1) := by decide +kernel
theorem dX12_readBytes_0 : decode cX12_readBytes 0 = .ok (.aload_n 0, 1) := by decide +kernel
theorem dX12_readBytes_1 : decode cX12_readBytes 1 = .ok (.iload_n 1, 1) := by decide +kernel
theorem dX12_readBytes_2 : decode cX12_readBytes 2 = .ok (.iconst 0, 1) := by decide +kernel
theorem dX12_readBytes_3 : decode cX12_readBytes 3 = .ok (.invokevirtual 453, 3) := by decide +kernel
theorem dX12_readBytes_6 : decode cX12_readBytes 6 = .ok (.ireturn, 1) := by decide +kernel
theorem dX12_there_0 : decode cX12_there 0 = .ok (.aload_n 0, 1) := by decide +kernel
theorem dX12_there_1 : decode cX12_there 1 = .ok (.getfield 300, 3) := by decide +kernel
theorem dX12_there_4 : decode cX12_there 4 = .ok (.iload_n 1, 1) := by decide +kernel
theorem dX12_there_5 : decode cX12_there 5 = .ok (.iadd, 1) := by decide +kernel
theorem dX12_there_6 : decode cX12_there 6 = .ok (.aload_n 0, 1) := by decide +kernel
theorem dX12_there_7 : decode cX12_there 7 = .ok (.getfield 303, 3) := by decide +kernel
theorem dX12_there_10 : decode cX12_there 10 = .ok (.if_icmp .gt 7, 3) := by decide +kernel
theorem dX12_there_13 : decode cX12_there 13 = .ok (.iconst 1, 1) := by decide +kernel
theorem dX12_there_14 : decode cX12_there 14 = .ok (.goto 4, 3) := by decide +kernel
theorem dX12_there_17 : decode cX12_there 17 = .ok (.iconst 0, 1) := by decide +kernel
theorem dX12_there_18 : decode cX12_there 18 = .ok (.ireturn, 1) := by decide +kernel
theorem dX12_whole_0 : decode cX12_whole 0 = .ok (.lconst 0, 1) := by decide +kernel
theorem dX12_whole_1 : decode cX12_whole 1 = .ok (.lstore_n 3, 1) := by decide +kernel
theorem dX12_whole_2 : decode cX12_whole 2 = .ok (.iconst 0, 1) := by decide +kernel
theorem dX12_whole_3 : decode cX12_whole 3 = .ok (.istore 5, 2) := by decide +kernel
theorem dX12_whole_5 : decode cX12_whole 5 = .ok (.iload 5, 2) := by decide +kernel
theorem dX12_whole_7 : decode cX12_whole 7 = .ok (.iload_n 2, 1) := by decide +kernel
theorem dX12_whole_8 : decode cX12_whole 8 = .ok (.if_icmp .ge 51, 3) := by decide +kernel
theorem dX12_whole_11 : decode cX12_whole 11 = .ok (.aload_n 0, 1) := by decide +kernel
theorem dX12_whole_12 : decode cX12_whole 12 = .ok (.getfield 457, 3) := by decide +kernel
theorem dX12_whole_15 : decode cX12_whole 15 = .ok (.ifCond .eq 10, 3) := by decide +kernel
theorem dX12_whole_18 : decode cX12_whole 18 = .ok (.iload_n 1, 1) := by decide +kernel
theorem dX12_whole_19 : decode cX12_whole 19 = .ok (.iload 5, 2) := by decide +kernel
theorem dX12_whole_21 : decode cX12_whole 21 = .ok (.iadd, 1) := by decide +kernel
theorem dX12_whole_22 : decode cX12_whole 22 = .ok (.goto 11, 3) := by decide +kernel
theorem dX12_whole_25 : decode cX12_whole 25 = .ok (.iload_n 1, 1) := by decide +kernel
theorem dX12_whole_26 : decode cX12_whole 26 = .ok (.iload_n 2, 1) := by decide +kernel
theorem dX12_whole_27 : decode cX12_whole 27 = .ok (.iadd, 1) := by decide +kernel
theorem dX12_whole_28 : decode cX12_whole 28 = .ok (.iconst 1, 1) := by decide +kernel
theorem dX12_whole_29 : decode cX12_whole 29 = .ok (.isub, 1) := by decide +kernel
theorem dX12_whole_30 : decode cX12_whole 30 = .ok (.iload 5, 2) := by decide +kernel
theorem dX12_whole_32 : decode cX12_whole 32 = .ok (.isub, 1) := by decide +kernel
theorem dX12_whole_33 : decode cX12_whole 33 = .ok (.istore 6, 2) := by decide +kernel
theorem dX12_whole_35 : decode cX12_whole 35 = .ok (.lload_n 3, 1) := by decide +kernel
theorem dX12_whole_36 : decode cX12_whole 36 = .ok (.bipush 8, 2) := by decide +kernel
theorem dX12_whole_38 : decode cX12_whole 38 = .ok (.lshl, 1) := by decide +kernel
theorem dX12_whole_39 : decode cX12_whole 39 = .ok (.aload_n 0, 1) := by decide +kernel
theorem dX12_whole_40 : decode cX12_whole 40 = .ok (.getfield 8, 3) := by decide +kernel
theorem dX12_whole_43 : decode cX12_whole 43 = .ok (.iload 6, 2) := by decide +kernel
theorem dX12_whole_45 : decode cX12_whole 45 = .ok (.baload, 1) := by decide +kernel
theorem dX12_whole_46 : decode cX12_whole 46 = .ok (.i2l, 1) := by decide +kernel
theorem dX12_whole_47 : decode cX12_whole 47 = .ok (.ldc2_w 460, 3) := by decide +kernel
theorem dX12_whole_50 : decode cX12_whole 50 = .ok (.land, 1) := by decide +kernel
theorem dX12_whole_51 : decode cX12_whole 51 = .ok (.lor, 1) := by decide +kernel
theorem dX12_whole_52 : decode cX12_whole 52 = .ok (.lstore_n 3, 1) := by decide +kernel
theorem dX12_whole_53 : decode cX12_whole 53 = .ok (.iinc 5 1, 3) := by decide +kernel
theorem dX12_whole_56 : decode cX12_whole 56 = .ok (.goto (-51), 3) := by decide +kernel
theorem dX12_whole_59 : decode cX12_whole 59 = .ok (.lload_n 3, 1) := by decide +kernel
theorem dX12_whole_60 : decode cX12_whole 60 = .ok (.lreturn, 1) := by decide +kernel
theorem dX12_bytes_0 : decode cX12_bytes 0 = .ok (.aload_n 0, 1) := by decide +kernel
theorem dX12_bytes_1 : decode cX12_bytes 1 = .ok (.iconst 0, 1) := by decide +kernel
theorem dX12_bytes_2 : decode cX12_bytes 2 = .ok (.putfield 300, 3) := by decide +kernel
theorem dX12_bytes_5 : decode cX12_bytes 5 = .ok (.aload_n 0, 1) := by decide +kernel
theorem dX12_bytes_6 : decode cX12_bytes 6 = .ok (.iconst 0, 1) := by decide +kernel
theorem dX12_bytes_7 : decode cX12_bytes 7 = .ok (.putfield 355, 3) := by decide +kernel
theorem dX12_bytes_10 : decode cX12_bytes 10 = .ok (.aload_n 0, 1) := by decide +kernel
theorem dX12_bytes_11 : decode cX12_bytes 11 = .ok (.iconst 0, 1) := by decide +kernel
theorem dX12_bytes_12 : decode cX12_bytes 12 = .ok (.putfield 462, 3) := by decide +kernel
theorem dX12_bytes_15 : decode cX12_bytes 15 = .ok (.aload_n 0, 1) := by decide +kernel
theorem dX12_bytes_16 : decode cX12_bytes 16 = .ok (.bipush 32, 2) := by decide +kernel
theorem dX12_bytes_18 : decode cX12_bytes 18 = .ok (.invokevirtual 358, 3) := by decide +kernel
theorem dX12_bytes_21 : decode cX12_bytes 21 = .ok (.aload_n 0, 1) := by decide +kernel
theorem dX12_bytes_22 : decode cX12_bytes 22 = .ok (.iconst 0, 1) := by decide +kernel
theorem dX12_bytes_23 : decode cX12_bytes 23 = .ok (.invokevirtual 465, 3) := by decide +kernel
theorem dX12_bytes_26 : decode cX12_bytes 26 = .ok (.istore_n 1, 1) := by decide +kernel
theorem dX12_bytes_27 : decode cX12_bytes 27 = .ok (.iload_n 1, 1) := by decide +kernel
theorem dX12_bytes_28 : decode cX12_bytes 28 = .ok (.ifCond .eq 91, 3) := by decide +kernel
theorem dX12_bytes_31 : decode cX12_bytes 31 = .ok (.aload_n 0, 1) := by decide +kernel
theorem dX12_bytes_32 : decode cX12_bytes 32 = .ok (.getfield 462, 3) := by decide +kernel
theorem dX12_bytes_35 : decode cX12_bytes 35 = .ok (.ifCond .le 84, 3) := by decide +kernel
theorem dX12_bytes_38 : decode cX12_bytes 38 = .ok (.aload_n 0, 1) := by decide +kernel
theorem dX12_bytes_39 : decode cX12_bytes 39 = .ok (.getfield 462, 3) := by decide +kernel
theorem dX12_bytes_42 : decode cX12_bytes 42 = .ok (.iconst 1, 1) := by decide +kernel
theorem dX12_bytes_43 : decode cX12_bytes 43 = .ok (.isub, 1) := by decide +kernel
theorem dX12_bytes_44 : decode cX12_bytes 44 = .ok (.istore_n 2, 1) := by decide +kernel
theorem dX12_bytes_45 : decode cX12_bytes 45 = .ok (.aload_n 0, 1) := by decide +kernel
theorem dX12_bytes_46 : decode cX12_bytes 46 = .ok (.getfield 44, 3) := by decide +kernel
theorem dX12_bytes_49 : decode cX12_bytes 49 = .ok (.iload_n 2, 1) := by decide +kernel
theorem dX12_bytes_50 : decode cX12_bytes 50 = .ok (.laload, 1) := by decide +kernel
theorem dX12_bytes_51 : decode cX12_bytes 51 = .ok (.lconst 0, 1) := by decide +kernel
theorem dX12_bytes_52 : decode cX12_bytes 52 = .ok (.lcmp, 1) := by decide +kernel
theorem dX12_bytes_53 : decode cX12_bytes 53 = .ok (.ifCond .ne 42, 3) := by decide +kernel
theorem dX12_bytes_56 : decode cX12_bytes 56 = .ok (.aload_n 0, 1) := by decide +kernel
theorem dX12_bytes_57 : decode cX12_bytes 57 = .ok (.dup, 1) := by decide +kernel
theorem dX12_bytes_58 : decode cX12_bytes 58 = .ok (.getfield 462, 3) := by decide +kernel
theorem dX12_bytes_61 : decode cX12_bytes 61 = .ok (.iconst 1, 1) := by decide +kernel
theorem dX12_bytes_62 : decode cX12_bytes 62 = .ok (.isub, 1) := by decide +kernel
theorem dX12_bytes_63 : decode cX12_bytes 63 = .ok (.putfield 462, 3) := by decide +kernel
theorem dX12_bytes_66 : decode cX12_bytes 66 = .ok (.aload_n 0, 1) := by decide +kernel
theorem dX12_bytes_67 : decode cX12_bytes 67 = .ok (.aload_n 0, 1) := by decide +kernel
theorem dX12_bytes_68 : decode cX12_bytes 68 = .ok (.getfield 48, 3) := by decide +kernel
theorem dX12_bytes_71 : decode cX12_bytes 71 = .ok (.iload_n 2, 1) := by decide +kernel
theorem dX12_bytes_72 : decode cX12_bytes 72 = .ok (.iaload, 1) := by decide +kernel
theorem dX12_bytes_73 : decode cX12_bytes 73 = .ok (.ifCond .ne 12, 3) := by decide +kernel
theorem dX12_bytes_76 : decode cX12_bytes 76 = .ok (.aload_n 0, 1) := by decide +kernel
theorem dX12_bytes_77 : decode cX12_bytes 77 = .ok (.getfield 355, 3) := by decide +kernel
theorem dX12_bytes_80 : decode cX12_bytes 80 = .ok (.iconst 1, 1) := by decide +kernel
theorem dX12_bytes_81 : decode cX12_bytes 81 = .ok (.isub, 1) := by decide +kernel
theorem dX12_bytes_82 : decode cX12_bytes 82 = .ok (.goto 7, 3) := by decide +kernel
theorem dX12_bytes_85 : decode cX12_bytes 85 = .ok (.aload_n 0, 1) := by decide +kernel
theorem dX12_bytes_86 : decode cX12_bytes 86 = .ok (.getfield 355, 3) := by decide +kernel
theorem dX12_bytes_89 : decode cX12_bytes 89 = .ok (.putfield 355, 3) := by decide +kernel
theorem dX12_bytes_92 : decode cX12_bytes 92 = .ok (.goto 24, 3) := by decide +kernel
theorem dX12_bytes_95 : decode cX12_bytes 95 = .ok (.aload_n 0, 1) := by decide +kernel
theorem dX12_bytes_96 : decode cX12_bytes 96 = .ok (.getfield 44, 3) := by decide +kernel
theorem dX12_bytes_99 : decode cX12_bytes 99 = .ok (.iload_n 2, 1) := by decide +kernel
theorem dX12_bytes_100 : decode cX12_bytes 100 = .ok (.dup2, 1) := by decide +kernel
theorem dX12_bytes_101 : decode cX12_bytes 101 = .ok (.laload, 1) := by decide +kernel
theorem dX12_bytes_102 : decode cX12_bytes 102 = .ok (.lconst 1, 1) := by decide +kernel
theorem dX12_bytes_103 : decode cX12_bytes 103 = .ok (.lsub, 1) := by decide +kernel
theorem dX12_bytes_104 : decode cX12_bytes 104 = .ok (.lastore, 1) := by decide +kernel
theorem dX12_bytes_105 : decode cX12_bytes 105 = .ok (.aload_n 0, 1) := by decide +kernel
theorem dX12_bytes_106 : decode cX12_bytes 106 = .ok (.aload_n 0, 1) := by decide +kernel
theorem dX12_bytes_107 : decode cX12_bytes 107 = .ok (.getfield 48, 3) := by decide +kernel
theorem dX12_bytes_110 : decode cX12_bytes 110 = .ok (.iload_n 2, 1) := by decide +kernel
theorem dX12_bytes_111 : decode cX12_bytes 111 = .ok (.iaload, 1) := by decide +kernel
theorem dX12_bytes_112 : decode cX12_bytes 112 = .ok (.invokevirtual 465, 3) := by decide +kernel
theorem dX12_bytes_115 : decode cX12_bytes 115 = .ok (.istore_n 1, 1) := by decide +kernel
theorem dX12_bytes_116 : decode cX12_bytes 116 = .ok (.goto (-89), 3) := by decide +kernel
theorem dX12_bytes_119 : decode cX12_bytes 119 = .ok (.iload_n 1, 1) := by decide +kernel
theorem dX12_bytes_120 : decode cX12_bytes 120 = .ok (.ifCond .eq 31, 3) := by decide +kernel
theorem dX12_bytes_123 : decode cX12_bytes 123 = .ok (.aload_n 0, 1) := by decide +kernel
theorem dX12_bytes_124 : decode cX12_bytes 124 = .ok (.getfield 300, 3) := by decide +kernel
theorem dX12_bytes_127 : decode cX12_bytes 127 = .ok (.aload_n 0, 1) := by decide +kernel
theorem dX12_bytes_128 : decode cX12_bytes 128 = .ok (.getfield 303, 3) := by decide +kernel
theorem dX12_bytes_131 : decode cX12_bytes 131 = .ok (.if_icmp .eq 16, 3) := by decide +kernel
theorem dX12_bytes_134 : decode cX12_bytes 134 = .ok (.aload_n 0, 1) := by decide +kernel
theorem dX12_bytes_135 : decode cX12_bytes 135 = .ok (.bipush 8, 2) := by decide +kernel
theorem dX12_bytes_137 : decode cX12_bytes 137 = .ok (.aload_n 0, 1) := by decide +kernel
theorem dX12_bytes_138 : decode cX12_bytes 138 = .ok (.getfield 300, 3) := by decide +kernel
theorem dX12_bytes_141 : decode cX12_bytes 141 = .ok (.invokevirtual 317, 3) := by decide +kernel
theorem dX12_bytes_144 : decode cX12_bytes 144 = .ok (.ifCond .eq 7, 3) := by decide +kernel
theorem dX12_bytes_147 : decode cX12_bytes 147 = .ok (.iconst 1, 1) := by decide +kernel
theorem dX12_bytes_148 : decode cX12_bytes 148 = .ok (.goto 4, 3) := by decide +kernel
theorem dX12_bytes_151 : decode cX12_bytes 151 = .ok (.iconst 0, 1) := by decide +kernel
theorem dX12_bytes_152 : decode cX12_bytes 152 = .ok (.ireturn, 1) := by decide +kernel
