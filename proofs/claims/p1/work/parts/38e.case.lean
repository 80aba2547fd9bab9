section CAS
theorem dL_readWords_0 : decode cL_readWords 0 = .ok (.aload_n 2, 1) := by decide +kernel
theorem dL_readWords_1 : decode cL_readWords 1 = .ok (.iconst 0, 1) := by decide +kernel
theorem dL_readWords_2 : decode cL_readWords 2 = .ok (.aload_n 0, 1) := by decide +kernel
theorem dL_readWords_3 : decode cL_readWords 3 = .ok (.iload_n 1, 1) := by decide +kernel
theorem dL_readWords_4 : decode cL_readWords 4 = .ok (.invokevirtual 21, 3) := by decide +kernel
theorem dL_readWords_12 : decode cL_readWords 12 = .ok (.astore_n 3, 1) := by decide +kernel
theorem dL_readWords_13 : decode cL_readWords 13 = .ok (.iconst 1, 1) := by decide +kernel
theorem dL_readWords_14 : decode cL_readWords 14 = .ok (.ireturn, 1) := by decide +kernel
theorem dL_readWords_15 : decode cL_readWords 15 = .ok (.astore_n 3, 1) := by decide +kernel
theorem dL_readWords_16 : decode cL_readWords 16 = .ok (.iconst 2, 1) := by decide +kernel
theorem dL_readWords_17 : decode cL_readWords 17 = .ok (.ireturn, 1) := by decide +kernel
theorem dX11_readWords_0 : decode cX11_readWords 0 = .ok (.aload_n 0, 1) := by decide +kernel
theorem dX11_readWords_1 : decode cX11_readWords 1 = .ok (.getfield 105, 3) := by decide +kernel
theorem dX11_readWords_4 : decode cX11_readWords 4 = .ok (.istore_n 2, 1) := by decide +kernel
theorem dX11_readWords_5 : decode cX11_readWords 5 = .ok (.aload_n 0, 1) := by decide +kernel
theorem dX11_readWords_6 : decode cX11_readWords 6 = .ok (.iconst 0, 1) := by decide +kernel
theorem dX11_readWords_7 : decode cX11_readWords 7 = .ok (.putfield 105, 3) := by decide +kernel
theorem dX11_readWords_10 : decode cX11_readWords 10 = .ok (.aload_n 0, 1) := by decide +kernel
theorem dX11_readWords_11 : decode cX11_readWords 11 = .ok (.iload_n 1, 1) := by decide +kernel
theorem dX11_readWords_12 : decode cX11_readWords 12 = .ok (.invokevirtual 140, 3) := by decide +kernel
theorem dX11_readWords_15 : decode cX11_readWords 15 = .ok (.astore_n 3, 1) := by decide +kernel
theorem dX11_readWords_16 : decode cX11_readWords 16 = .ok (.aload_n 0, 1) := by decide +kernel
theorem dX11_readWords_17 : decode cX11_readWords 17 = .ok (.getfield 30, 3) := by decide +kernel
theorem dX11_readWords_20 : decode cX11_readWords 20 = .ok (.aload_n 3, 1) := by decide +kernel
theorem dX11_readWords_21 : decode cX11_readWords 21 = .ok (.iload_n 2, 1) := by decide +kernel
theorem dX11_readWords_22 : decode cX11_readWords 22 = .ok (.invokevirtual 144, 3) := by decide +kernel
theorem dX11_readWords_25 : decode cX11_readWords 25 = .ok (.istore 4, 2) := by decide +kernel
theorem dX11_readWords_27 : decode cX11_readWords 27 = .ok (.aload_n 0, 1) := by decide +kernel
theorem dX11_readWords_28 : decode cX11_readWords 28 = .ok (.aload_n 3, 1) := by decide +kernel
theorem dX11_readWords_29 : decode cX11_readWords 29 = .ok (.iload 4, 2) := by decide +kernel
theorem dX11_readWords_31 : decode cX11_readWords 31 = .ok (.aload_n 0, 1) := by decide +kernel
theorem dX11_readWords_32 : decode cX11_readWords 32 = .ok (.getfield 30, 3) := by decide +kernel
theorem dX11_readWords_35 : decode cX11_readWords 35 = .ok (.getfield 148, 3) := by decide +kernel
theorem dX11_readWords_38 : decode cX11_readWords 38 = .ok (.aload_n 0, 1) := by decide +kernel
theorem dX11_readWords_39 : decode cX11_readWords 39 = .ok (.getfield 30, 3) := by decide +kernel
theorem dX11_readWords_42 : decode cX11_readWords 42 = .ok (.getfield 151, 3) := by decide +kernel
theorem dX11_readWords_45 : decode cX11_readWords 45 = .ok (.invokevirtual 154, 3) := by decide +kernel
theorem dX12_readWords_0 : decode cX12_readWords 0 = .ok (.aload_n 0, 1) := by decide +kernel
theorem dX12_readWords_1 : decode cX12_readWords 1 = .ok (.iload_n 1, 1) := by decide +kernel
theorem dX12_readWords_2 : decode cX12_readWords 2 = .ok (.iconst 1, 1) := by decide +kernel
theorem dX12_readWords_3 : decode cX12_readWords 3 = .ok (.invokevirtual 453, 3) := by decide +kernel
theorem dX12_readWords_6 : decode cX12_readWords 6 = .ok (.ireturn, 1) := by decide +kernel
theorem dX12_reads_0 : decode cX12_reads 0 = .ok (.aload_n 0, 1) := by decide +kernel
theorem dX12_reads_1 : decode cX12_reads 1 = .ok (.iconst 0, 1) := by decide +kernel
theorem dX12_reads_2 : decode cX12_reads 2 = .ok (.putfield 271, 3) := by decide +kernel
theorem dX12_reads_5 : decode cX12_reads 5 = .ok (.aload_n 0, 1) := by decide +kernel
theorem dX12_reads_6 : decode cX12_reads 6 = .ok (.aload_n 0, 1) := by decide +kernel
theorem dX12_reads_7 : decode cX12_reads 7 = .ok (.getfield 274, 3) := by decide +kernel
theorem dX12_reads_10 : decode cX12_reads 10 = .ok (.putfield 303, 3) := by decide +kernel
theorem dX12_reads_13 : decode cX12_reads 13 = .ok (.aload_n 0, 1) := by decide +kernel
theorem dX12_reads_14 : decode cX12_reads 14 = .ok (.iconst 0, 1) := by decide +kernel
theorem dX12_reads_15 : decode cX12_reads 15 = .ok (.putfield 274, 3) := by decide +kernel
theorem dX12_reads_18 : decode cX12_reads 18 = .ok (.aload_n 0, 1) := by decide +kernel
theorem dX12_reads_19 : decode cX12_reads 19 = .ok (.iload_n 1, 1) := by decide +kernel
theorem dX12_reads_20 : decode cX12_reads 20 = .ok (.invokestatic 440, 3) := by decide +kernel
theorem dX12_reads_23 : decode cX12_reads 23 = .ok (.ifCond .ne 7, 3) := by decide +kernel
theorem dX12_reads_26 : decode cX12_reads 26 = .ok (.iconst 1, 1) := by decide +kernel
theorem dX12_reads_27 : decode cX12_reads 27 = .ok (.goto 4, 3) := by decide +kernel
theorem dX12_reads_30 : decode cX12_reads 30 = .ok (.iconst 0, 1) := by decide +kernel
theorem dX12_reads_31 : decode cX12_reads 31 = .ok (.iconst 1, 1) := by decide +kernel
theorem dX12_reads_32 : decode cX12_reads 32 = .ok (.invokevirtual 277, 3) := by decide +kernel
theorem dX12_reads_35 : decode cX12_reads 35 = .ok (.ifCond .eq 5, 3) := by decide +kernel
theorem dX12_reads_38 : decode cX12_reads 38 = .ok (.iconst 0, 1) := by decide +kernel
theorem dX12_reads_39 : decode cX12_reads 39 = .ok (.ireturn, 1) := by decide +kernel
theorem dX12_reads_40 : decode cX12_reads 40 = .ok (.iload_n 2, 1) := by decide +kernel
theorem dX12_reads_41 : decode cX12_reads 41 = .ok (.ifCond .eq 10, 3) := by decide +kernel
theorem dX12_reads_44 : decode cX12_reads 44 = .ok (.aload_n 0, 1) := by decide +kernel
theorem dX12_reads_45 : decode cX12_reads 45 = .ok (.invokevirtual 443, 3) := by decide +kernel
theorem dX12_reads_48 : decode cX12_reads 48 = .ok (.goto 7, 3) := by decide +kernel
theorem dX12_reads_51 : decode cX12_reads 51 = .ok (.aload_n 0, 1) := by decide +kernel
theorem dX12_reads_52 : decode cX12_reads 52 = .ok (.invokevirtual 446, 3) := by decide +kernel
theorem dX12_reads_55 : decode cX12_reads 55 = .ok (.istore_n 3, 1) := by decide +kernel
theorem dX12_reads_56 : decode cX12_reads 56 = .ok (.aload_n 0, 1) := by decide +kernel
theorem dX12_reads_57 : decode cX12_reads 57 = .ok (.iload_n 1, 1) := by decide +kernel
theorem dX12_reads_58 : decode cX12_reads 58 = .ok (.invokevirtual 358, 3) := by decide +kernel
theorem dX12_reads_61 : decode cX12_reads 61 = .ok (.aload_n 0, 1) := by decide +kernel
theorem dX12_reads_62 : decode cX12_reads 62 = .ok (.iload_n 3, 1) := by decide +kernel
theorem dX12_reads_63 : decode cX12_reads 63 = .ok (.ifCond .ne 7, 3) := by decide +kernel
theorem dX12_reads_66 : decode cX12_reads 66 = .ok (.iconst 1, 1) := by decide +kernel
theorem dX12_reads_67 : decode cX12_reads 67 = .ok (.goto 4, 3) := by decide +kernel
theorem dX12_reads_71 : decode cX12_reads 71 = .ok (.iconst 2, 1) := by decide +kernel
theorem dX12_reads_72 : decode cX12_reads 72 = .ok (.invokevirtual 277, 3) := by decide +kernel
theorem dX12_reads_75 : decode cX12_reads 75 = .ok (.ifCond .eq 5, 3) := by decide +kernel
theorem dX12_reads_78 : decode cX12_reads 78 = .ok (.iconst 0, 1) := by decide +kernel
theorem dX12_reads_79 : decode cX12_reads 79 = .ok (.ireturn, 1) := by decide +kernel
theorem dX9_readInto_0 : decode cX9_readInto 0 = .ok (.aload_n 0, 1) := by decide +kernel
theorem dX9_readInto_1 : decode cX9_readInto 1 = .ok (.aload_n 1, 1) := by decide +kernel
theorem dX9_readInto_2 : decode cX9_readInto 2 = .ok (.putfield 26, 3) := by decide +kernel
theorem dX9_readInto_5 : decode cX9_readInto 5 = .ok (.aload_n 0, 1) := by decide +kernel
theorem dX9_readInto_6 : decode cX9_readInto 6 = .ok (.getfield 26, 3) := by decide +kernel
theorem dX9_readInto_9 : decode cX9_readInto 9 = .ok (.invokevirtual 30, 3) := by decide +kernel
theorem dX9_readInto_12 : decode cX9_readInto 12 = .ok (.aload_n 0, 1) := by decide +kernel
theorem dX9_readInto_13 : decode cX9_readInto 13 = .ok (.iload_n 2, 1) := by decide +kernel
theorem dX9_readInto_14 : decode cX9_readInto 14 = .ok (.aload_n 0, 1) := by decide +kernel
theorem dX9_readInto_15 : decode cX9_readInto 15 = .ok (.getfield 22, 3) := by decide +kernel
theorem dX9_readInto_18 : decode cX9_readInto 18 = .ok (.arraylength, 1) := by decide +kernel
theorem dX9_readInto_19 : decode cX9_readInto 19 = .ok (.invokestatic 35, 3) := by decide +kernel
theorem dX9_readInto_22 : decode cX9_readInto 22 = .ok (.putfield 41, 3) := by decide +kernel
theorem dX9_readInto_25 : decode cX9_readInto 25 = .ok (.aload_n 0, 1) := by decide +kernel
theorem dX9_readInto_26 : decode cX9_readInto 26 = .ok (.iconst 0, 1) := by decide +kernel
theorem dX9_readInto_27 : decode cX9_readInto 27 = .ok (.putfield 44, 3) := by decide +kernel
theorem dX9_readInto_30 : decode cX9_readInto 30 = .ok (.aload_n 0, 1) := by decide +kernel
theorem dX9_readInto_31 : decode cX9_readInto 31 = .ok (.iconst 0, 1) := by decide +kernel
theorem dX9_readInto_32 : decode cX9_readInto 32 = .ok (.putfield 47, 3) := by decide +kernel
theorem dX9_readInto_35 : decode cX9_readInto 35 = .ok (.aload_n 0, 1) := by decide +kernel
theorem dX9_readInto_36 : decode cX9_readInto 36 = .ok (.iconst 0, 1) := by decide +kernel
theorem dX9_readInto_37 : decode cX9_readInto 37 = .ok (.putfield 50, 3) := by decide +kernel
theorem dX9_readInto_40 : decode cX9_readInto 40 = .ok (.aload_n 0, 1) := by decide +kernel
theorem dX9_readInto_41 : decode cX9_readInto 41 = .ok (.iconst 0, 1) := by decide +kernel
theorem dX9_readInto_42 : decode cX9_readInto 42 = .ok (.putfield 53, 3) := by decide +kernel
theorem dX9_readInto_45 : decode cX9_readInto 45 = .ok (.aload_n 0, 1) := by decide +kernel
theorem dX9_readInto_46 : decode cX9_readInto 46 = .ok (.iconst 0, 1) := by decide +kernel
theorem dX9_readInto_47 : decode cX9_readInto 47 = .ok (.putfield 56, 3) := by decide +kernel
theorem dX9_readInto_50 : decode cX9_readInto 50 = .ok (.aload_n 0, 1) := by decide +kernel
theorem dX9_readInto_51 : decode cX9_readInto 51 = .ok (.invokevirtual 59, 3) := by decide +kernel
theorem dX9_readInto_54 : decode cX9_readInto 54 = .ok (.istore_n 3, 1) := by decide +kernel
theorem dX9_readInto_55 : decode cX9_readInto 55 = .ok (.iconst 0, 1) := by decide +kernel
theorem dX9_readInto_56 : decode cX9_readInto 56 = .ok (.istore 4, 2) := by decide +kernel
theorem dX9_readInto_58 : decode cX9_readInto 58 = .ok (.iload_n 3, 1) := by decide +kernel
theorem dX9_readInto_59 : decode cX9_readInto 59 = .ok (.ifCond .eq 54, 3) := by decide +kernel
theorem dX9_readInto_113 : decode cX9_readInto 113 = .ok (.aload_n 0, 1) := by decide +kernel
theorem dX9_readInto_114 : decode cX9_readInto 114 = .ok (.invokevirtual 69, 3) := by decide +kernel
theorem dX9_readInto_117 : decode cX9_readInto 117 = .ok (.iload_n 3, 1) := by decide +kernel
theorem dX9_readInto_118 : decode cX9_readInto 118 = .ok (.ifCond .eq 27, 3) := by decide +kernel
theorem dX9_readInto_145 : decode cX9_readInto 145 = .ok (.iconst 0, 1) := by decide +kernel
theorem dX9_readInto_146 : decode cX9_readInto 146 = .ok (.ireturn, 1) := by decide +kernel
theorem dX9_readShape_0 : decode cX9_readShape 0 = .ok (.aload_n 0, 1) := by decide +kernel
theorem dX9_readShape_1 : decode cX9_readShape 1 = .ok (.invokevirtual 69, 3) := by decide +kernel
theorem dX9_readShape_4 : decode cX9_readShape 4 = .ok (.aload_n 0, 1) := by decide +kernel
theorem dX9_readShape_5 : decode cX9_readShape 5 = .ok (.aload_n 0, 1) := by decide +kernel
theorem dX9_readShape_6 : decode cX9_readShape 6 = .ok (.getfield 44, 3) := by decide +kernel
theorem dX9_readShape_9 : decode cX9_readShape 9 = .ok (.invokevirtual 76, 3) := by decide +kernel
theorem dX9_readShape_12 : decode cX9_readShape 12 = .ok (.invokestatic 80, 3) := by decide +kernel
theorem dX9_readShape_15 : decode cX9_readShape 15 = .ok (.ifCond .ne 8, 3) := by decide +kernel
theorem dX9_readShape_18 : decode cX9_readShape 18 = .ok (.aload_n 0, 1) := by decide +kernel
theorem dX9_readShape_19 : decode cX9_readShape 19 = .ok (.invokevirtual 111, 3) := by decide +kernel
theorem dX9_readShape_22 : decode cX9_readShape 22 = .ok (.ireturn, 1) := by decide +kernel
theorem dX9_skipBlanks_0 : decode cX9_skipBlanks 0 = .ok (.aload_n 0, 1) := by decide +kernel
theorem dX9_skipBlanks_1 : decode cX9_skipBlanks 1 = .ok (.getfield 44, 3) := by decide +kernel
theorem dX9_skipBlanks_4 : decode cX9_skipBlanks 4 = .ok (.aload_n 0, 1) := by decide +kernel
theorem dX9_skipBlanks_5 : decode cX9_skipBlanks 5 = .ok (.getfield 41, 3) := by decide +kernel
theorem dX9_skipBlanks_8 : decode cX9_skipBlanks 8 = .ok (.if_icmp .ge 31, 3) := by decide +kernel
theorem dX9_skipBlanks_39 : decode cX9_skipBlanks 39 = .ok (.return_, 1) := by decide +kernel
theorem dX9_signAt_0 : decode cX9_signAt 0 = .ok (.iload_n 1, 1) := by decide +kernel
theorem dX9_signAt_1 : decode cX9_signAt 1 = .ok (.ifCond .lt 24, 3) := by decide +kernel
theorem dX9_signAt_4 : decode cX9_signAt 4 = .ok (.iload_n 1, 1) := by decide +kernel
theorem dX9_signAt_5 : decode cX9_signAt 5 = .ok (.aload_n 0, 1) := by decide +kernel
theorem dX9_signAt_6 : decode cX9_signAt 6 = .ok (.getfield 41, 3) := by decide +kernel
theorem dX9_signAt_9 : decode cX9_signAt 9 = .ok (.if_icmp .ge 16, 3) := by decide +kernel
theorem dX9_signAt_25 : decode cX9_signAt 25 = .ok (.iconst (-1), 1) := by decide +kernel
theorem dX9_signAt_26 : decode cX9_signAt 26 = .ok (.ireturn, 1) := by decide +kernel
theorem dX9_isLetter_0 : decode cX9_isLetter 0 = .ok (.iload_n 0, 1) := by decide +kernel
theorem dX9_isLetter_1 : decode cX9_isLetter 1 = .ok (.bipush 65, 2) := by decide +kernel
theorem dX9_isLetter_3 : decode cX9_isLetter 3 = .ok (.if_icmp .lt 9, 3) := by decide +kernel
theorem dX9_isLetter_12 : decode cX9_isLetter 12 = .ok (.iload_n 0, 1) := by decide +kernel
theorem dX9_isLetter_13 : decode cX9_isLetter 13 = .ok (.bipush 97, 2) := by decide +kernel
theorem dX9_isLetter_15 : decode cX9_isLetter 15 = .ok (.if_icmp .lt 13, 3) := by decide +kernel
theorem dX9_isLetter_28 : decode cX9_isLetter 28 = .ok (.iconst 0, 1) := by decide +kernel
theorem dX9_isLetter_29 : decode cX9_isLetter 29 = .ok (.ireturn, 1) := by decide +kernel
theorem dX9_unexpected_0 : decode cX9_unexpected 0 = .ok (.aload_n 0, 1) := by decide +kernel
theorem dX9_unexpected_1 : decode cX9_unexpected 1 = .ok (.aload_n 0, 1) := by decide +kernel
theorem dX9_unexpected_2 : decode cX9_unexpected 2 = .ok (.getfield 44, 3) := by decide +kernel
theorem dX9_unexpected_5 : decode cX9_unexpected 5 = .ok (.invokevirtual 76, 3) := by decide +kernel
theorem dX9_unexpected_8 : decode cX9_unexpected 8 = .ok (.istore_n 1, 1) := by decide +kernel
theorem dX9_unexpected_9 : decode cX9_unexpected 9 = .ok (.iload_n 1, 1) := by decide +kernel
theorem dX9_unexpected_10 : decode cX9_unexpected 10 = .ok (.ifCond .lt 35, 3) := by decide +kernel
theorem dX9_unexpected_45 : decode cX9_unexpected 45 = .ok (.iconst 1, 1) := by decide +kernel
theorem dX9_unexpected_46 : decode cX9_unexpected 46 = .ok (.goto 4, 3) := by decide +kernel
theorem dX9_unexpected_50 : decode cX9_unexpected 50 = .ok (.istore_n 2, 1) := by decide +kernel
theorem dX9_unexpected_51 : decode cX9_unexpected 51 = .ok (.aload_n 0, 1) := by decide +kernel
theorem dX9_unexpected_52 : decode cX9_unexpected 52 = .ok (.iload_n 2, 1) := by decide +kernel
theorem dX9_unexpected_53 : decode cX9_unexpected 53 = .ok (.ifCond .eq 7, 3) := by decide +kernel
theorem dX9_unexpected_56 : decode cX9_unexpected 56 = .ok (.iconst 3, 1) := by decide +kernel
theorem dX9_unexpected_57 : decode cX9_unexpected 57 = .ok (.goto 4, 3) := by decide +kernel
theorem dX9_unexpected_61 : decode cX9_unexpected 61 = .ok (.invokevirtual 72, 3) := by decide +kernel
theorem dX9_unexpected_64 : decode cX9_unexpected 64 = .ok (.ireturn, 1) := by decide +kernel
theorem dX9_fail_0 : decode cX9_fail 0 = .ok (.aload_n 0, 1) := by decide +kernel
theorem dX9_fail_1 : decode cX9_fail 1 = .ok (.iload_n 1, 1) := by decide +kernel
theorem dX9_fail_2 : decode cX9_fail 2 = .ok (.putfield 53, 3) := by decide +kernel
theorem dX9_fail_5 : decode cX9_fail 5 = .ok (.aload_n 0, 1) := by decide +kernel
theorem dX9_fail_6 : decode cX9_fail 6 = .ok (.aload_n 0, 1) := by decide +kernel
theorem dX9_fail_7 : decode cX9_fail 7 = .ok (.getfield 44, 3) := by decide +kernel
theorem dX9_fail_10 : decode cX9_fail 10 = .ok (.putfield 56, 3) := by decide +kernel
theorem dX9_fail_13 : decode cX9_fail 13 = .ok (.iconst 0, 1) := by decide +kernel
theorem dX9_fail_14 : decode cX9_fail 14 = .ok (.ireturn, 1) := by decide +kernel
theorem dX11_kindOrFault_0 : decode cX11_kindOrFault 0 = .ok (.aload_n 0, 1) := by decide +kernel
theorem dX11_kindOrFault_1 : decode cX11_kindOrFault 1 = .ok (.iload_n 3, 1) := by decide +kernel
theorem dX11_kindOrFault_2 : decode cX11_kindOrFault 2 = .ok (.putfield 161, 3) := by decide +kernel
theorem dX11_kindOrFault_5 : decode cX11_kindOrFault 5 = .ok (.aload_n 0, 1) := by decide +kernel
theorem dX11_kindOrFault_6 : decode cX11_kindOrFault 6 = .ok (.iload 4, 2) := by decide +kernel
theorem dX11_kindOrFault_8 : decode cX11_kindOrFault 8 = .ok (.putfield 162, 3) := by decide +kernel
theorem dX11_kindOrFault_11 : decode cX11_kindOrFault 11 = .ok (.iload_n 2, 1) := by decide +kernel
theorem dX11_kindOrFault_12 : decode cX11_kindOrFault 12 = .ok (.ifCond .ne 15, 3) := by decide +kernel
theorem dX11_kindOrFault_15 : decode cX11_kindOrFault 15 = .ok (.aload_n 1, 1) := by decide +kernel
theorem dX11_kindOrFault_16 : decode cX11_kindOrFault 16 = .ok (.invokevirtual 165, 3) := by decide +kernel
theorem dX11_kindOrFault_19 : decode cX11_kindOrFault 19 = .ok (.new 116, 3) := by decide +kernel
theorem dX11_kindOrFault_22 : decode cX11_kindOrFault 22 = .ok (.dup, 1) := by decide +kernel
theorem dX11_kindOrFault_23 : decode cX11_kindOrFault 23 = .ok (.invokespecial 118, 3) := by decide +kernel
theorem dX11_kindOrFault_26 : decode cX11_kindOrFault 26 = .ok (.athrow, 1) := by decide +kernel
theorem dX12_words_0 : decode cX12_words 0 = .ok (.aload_n 0, 1) := by decide +kernel
theorem dX12_words_1 : decode cX12_words 1 = .ok (.iconst 0, 1) := by decide +kernel
theorem dX12_words_2 : decode cX12_words 2 = .ok (.putfield 300, 3) := by decide +kernel
theorem dX12_words_5 : decode cX12_words 5 = .ok (.aload_n 0, 1) := by decide +kernel
theorem dX12_words_6 : decode cX12_words 6 = .ok (.iconst 0, 1) := by decide +kernel
theorem dX12_words_7 : decode cX12_words 7 = .ok (.putfield 355, 3) := by decide +kernel
theorem dX12_words_10 : decode cX12_words 10 = .ok (.aload_n 0, 1) := by decide +kernel
theorem dX12_words_11 : decode cX12_words 11 = .ok (.bipush 32, 2) := by decide +kernel
theorem dX12_words_13 : decode cX12_words 13 = .ok (.invokevirtual 358, 3) := by decide +kernel
theorem dX12_words_16 : decode cX12_words 16 = .ok (.iconst 1, 1) := by decide +kernel
theorem dX12_words_17 : decode cX12_words 17 = .ok (.istore_n 1, 1) := by decide +kernel
theorem dX12_words_18 : decode cX12_words 18 = .ok (.iconst 1, 1) := by decide +kernel
theorem dX12_words_19 : decode cX12_words 19 = .ok (.istore_n 2, 1) := by decide +kernel
theorem dX12_words_20 : decode cX12_words 20 = .ok (.iload_n 1, 1) := by decide +kernel
theorem dX12_words_21 : decode cX12_words 21 = .ok (.ifCond .eq 112, 3) := by decide +kernel
theorem dX12_words_24 : decode cX12_words 24 = .ok (.iload_n 2, 1) := by decide +kernel
theorem dX12_words_25 : decode cX12_words 25 = .ok (.ifCond .ne 10, 3) := by decide +kernel
theorem dX12_words_35 : decode cX12_words 35 = .ok (.iload_n 2, 1) := by decide +kernel
theorem dX12_words_36 : decode cX12_words 36 = .ok (.ifCond .eq 28, 3) := by decide +kernel
theorem dX12_words_39 : decode cX12_words 39 = .ok (.aload_n 0, 1) := by decide +kernel
theorem dX12_words_40 : decode cX12_words 40 = .ok (.invokevirtual 361, 3) := by decide +kernel
theorem dX12_words_43 : decode cX12_words 43 = .ok (.istore_n 1, 1) := by decide +kernel
theorem dX12_words_44 : decode cX12_words 44 = .ok (.iload_n 1, 1) := by decide +kernel
theorem dX12_words_45 : decode cX12_words 45 = .ok (.ifCond .eq 14, 3) := by decide +kernel
theorem dX12_words_59 : decode cX12_words 59 = .ok (.iconst 0, 1) := by decide +kernel
theorem dX12_words_60 : decode cX12_words 60 = .ok (.istore_n 2, 1) := by decide +kernel
theorem dX12_words_61 : decode cX12_words 61 = .ok (.goto (-41), 3) := by decide +kernel
theorem dX12_words_133 : decode cX12_words 133 = .ok (.iload_n 1, 1) := by decide +kernel
theorem dX12_words_134 : decode cX12_words 134 = .ok (.ifCond .ne 5, 3) := by decide +kernel
theorem dX12_words_137 : decode cX12_words 137 = .ok (.iconst 0, 1) := by decide +kernel
theorem dX12_words_138 : decode cX12_words 138 = .ok (.ireturn, 1) := by decide +kernel
theorem dX12_beginShape_0 : decode cX12_beginShape 0 = .ok (.aload_n 0, 1) := by decide +kernel
theorem dX12_beginShape_1 : decode cX12_beginShape 1 = .ok (.iconst 0, 1) := by decide +kernel
theorem dX12_beginShape_2 : decode cX12_beginShape 2 = .ok (.putfield 365, 3) := by decide +kernel
theorem dX12_beginShape_5 : decode cX12_beginShape 5 = .ok (.aload_n 0, 1) := by decide +kernel
theorem dX12_beginShape_6 : decode cX12_beginShape 6 = .ok (.invokevirtual 349, 3) := by decide +kernel
theorem dX12_beginShape_9 : decode cX12_beginShape 9 = .ok (.aload_n 0, 1) := by decide +kernel
theorem dX12_beginShape_10 : decode cX12_beginShape 10 = .ok (.invokevirtual 306, 3) := by decide +kernel
theorem dX12_beginShape_13 : decode cX12_beginShape 13 = .ok (.iconst (-1), 1) := by decide +kernel
theorem dX12_beginShape_14 : decode cX12_beginShape 14 = .ok (.if_icmp .eq 13, 3) := by decide +kernel
theorem dX12_beginShape_27 : decode cX12_beginShape 27 = .ok (.aload_n 0, 1) := by decide +kernel
theorem dX12_beginShape_28 : decode cX12_beginShape 28 = .ok (.iconst 1, 1) := by decide +kernel
theorem dX12_beginShape_29 : decode cX12_beginShape 29 = .ok (.invokevirtual 369, 3) := by decide +kernel
theorem dX12_beginShape_32 : decode cX12_beginShape 32 = .ok (.ireturn, 1) := by decide +kernel
theorem dX12_skip_0 : decode cX12_skip 0 = .ok (.aload_n 0, 1) := by decide +kernel
theorem dX12_skip_1 : decode cX12_skip 1 = .ok (.invokevirtual 306, 3) := by decide +kernel
theorem dX12_skip_4 : decode cX12_skip 4 = .ok (.invokestatic 310, 3) := by decide +kernel
theorem dX12_skip_7 : decode cX12_skip 7 = .ok (.ifCond .eq 16, 3) := by decide +kernel
theorem dX12_skip_23 : decode cX12_skip 23 = .ok (.return_, 1) := by decide +kernel
theorem dX12_here_0 : decode cX12_here 0 = .ok (.aload_n 0, 1) := by decide +kernel
theorem dX12_here_1 : decode cX12_here 1 = .ok (.getfield 300, 3) := by decide +kernel
theorem dX12_here_4 : decode cX12_here 4 = .ok (.aload_n 0, 1) := by decide +kernel
theorem dX12_here_5 : decode cX12_here 5 = .ok (.getfield 303, 3) := by decide +kernel
theorem dX12_here_8 : decode cX12_here 8 = .ok (.if_icmp .ge 19, 3) := by decide +kernel
theorem dX12_here_27 : decode cX12_here 27 = .ok (.iconst (-1), 1) := by decide +kernel
theorem dX12_here_28 : decode cX12_here 28 = .ok (.ireturn, 1) := by decide +kernel
theorem dX12_isBlank_0 : decode cX12_isBlank 0 = .ok (.iload_n 0, 1) := by decide +kernel
theorem dX12_isBlank_1 : decode cX12_isBlank 1 = .ok (.bipush 32, 2) := by decide +kernel
theorem dX12_isBlank_3 : decode cX12_isBlank 3 = .ok (.if_icmp .eq 21, 3) := by decide +kernel
theorem dX12_isBlank_6 : decode cX12_isBlank 6 = .ok (.iload_n 0, 1) := by decide +kernel
theorem dX12_isBlank_7 : decode cX12_isBlank 7 = .ok (.bipush 9, 2) := by decide +kernel
theorem dX12_isBlank_9 : decode cX12_isBlank 9 = .ok (.if_icmp .eq 15, 3) := by decide +kernel
theorem dX12_isBlank_12 : decode cX12_isBlank 12 = .ok (.iload_n 0, 1) := by decide +kernel
theorem dX12_isBlank_13 : decode cX12_isBlank 13 = .ok (.bipush 10, 2) := by decide +kernel
theorem dX12_isBlank_15 : decode cX12_isBlank 15 = .ok (.if_icmp .eq 9, 3) := by decide +kernel
theorem dX12_isBlank_18 : decode cX12_isBlank 18 = .ok (.iload_n 0, 1) := by decide +kernel
theorem dX12_isBlank_19 : decode cX12_isBlank 19 = .ok (.bipush 13, 2) := by decide +kernel
theorem dX12_isBlank_21 : decode cX12_isBlank 21 = .ok (.if_icmp .ne 7, 3) := by decide +kernel
theorem dX12_isBlank_28 : decode cX12_isBlank 28 = .ok (.iconst 0, 1) := by decide +kernel
theorem dX12_isBlank_29 : decode cX12_isBlank 29 = .ok (.ireturn, 1) := by decide +kernel
theorem dX12_strange_0 : decode cX12_strange 0 = .ok (.aload_n 0, 1) := by decide +kernel
theorem dX12_strange_1 : decode cX12_strange 1 = .ok (.invokevirtual 306, 3) := by decide +kernel
theorem dX12_strange_4 : decode cX12_strange 4 = .ok (.istore_n 2, 1) := by decide +kernel
theorem dX12_strange_5 : decode cX12_strange 5 = .ok (.iload_n 2, 1) := by decide +kernel
theorem dX12_strange_6 : decode cX12_strange 6 = .ok (.iconst (-1), 1) := by decide +kernel
theorem dX12_strange_7 : decode cX12_strange 7 = .ok (.if_icmp .eq 28, 3) := by decide +kernel
theorem dX12_strange_35 : decode cX12_strange 35 = .ok (.iload_n 2, 1) := by decide +kernel
theorem dX12_strange_36 : decode cX12_strange 36 = .ok (.iconst (-1), 1) := by decide +kernel
theorem dX12_strange_37 : decode cX12_strange 37 = .ok (.if_icmp .eq 41, 3) := by decide +kernel
theorem dX12_strange_78 : decode cX12_strange 78 = .ok (.iconst 1, 1) := by decide +kernel
theorem dX12_strange_79 : decode cX12_strange 79 = .ok (.goto 4, 3) := by decide +kernel
theorem dX12_strange_83 : decode cX12_strange 83 = .ok (.istore_n 3, 1) := by decide +kernel
theorem dX12_strange_84 : decode cX12_strange 84 = .ok (.aload_n 0, 1) := by decide +kernel
theorem dX12_strange_85 : decode cX12_strange 85 = .ok (.iload_n 3, 1) := by decide +kernel
theorem dX12_strange_86 : decode cX12_strange 86 = .ok (.ifCond .eq 7, 3) := by decide +kernel
theorem dX12_strange_89 : decode cX12_strange 89 = .ok (.iconst 3, 1) := by decide +kernel
theorem dX12_strange_90 : decode cX12_strange 90 = .ok (.goto 4, 3) := by decide +kernel
theorem dX12_strange_94 : decode cX12_strange 94 = .ok (.aload_n 0, 1) := by decide +kernel
theorem dX12_strange_95 : decode cX12_strange 95 = .ok (.getfield 300, 3) := by decide +kernel
theorem dX12_strange_98 : decode cX12_strange 98 = .ok (.invokevirtual 317, 3) := by decide +kernel
theorem dX12_strange_101 : decode cX12_strange 101 = .ok (.ireturn, 1) := by decide +kernel
theorem dX12_wrong_0 : decode cX12_wrong 0 = .ok (.aload_n 0, 1) := by decide +kernel
theorem dX12_wrong_1 : decode cX12_wrong 1 = .ok (.iload_n 1, 1) := by decide +kernel
theorem dX12_wrong_2 : decode cX12_wrong 2 = .ok (.putfield 294, 3) := by decide +kernel
theorem dX12_wrong_5 : decode cX12_wrong 5 = .ok (.aload_n 0, 1) := by decide +kernel
theorem dX12_wrong_6 : decode cX12_wrong 6 = .ok (.iload_n 2, 1) := by decide +kernel
theorem dX12_wrong_7 : decode cX12_wrong 7 = .ok (.putfield 297, 3) := by decide +kernel
theorem dX12_wrong_10 : decode cX12_wrong 10 = .ok (.iconst 0, 1) := by decide +kernel
theorem dX12_wrong_11 : decode cX12_wrong 11 = .ok (.ireturn, 1) := by decide +kernel
theorem dL_readBytes_0 : decode cL_readBytes 0 = .ok (.aload_n 2, 1) := by decide +kernel
theorem dL_readBytes_1 : decode cL_readBytes 1 = .ok (.iconst 0, 1) := by decide +kernel
theorem dL_readBytes_2 : decode cL_readBytes 2 = .ok (.aload_n 0, 1) := by decide +kernel
theorem dL_readBytes_3 : decode cL_readBytes 3 = .ok (.iload_n 1, 1) := by decide +kernel
theorem dL_readBytes_4 : decode cL_readBytes 4 = .ok (.invokevirtual 26, 3) := by decide +kernel
theorem dL_readBytes_12 : decode cL_readBytes 12 = .ok (.astore_n 3, 1) := by decide +kernel
theorem dL_readBytes_13 : decode cL_readBytes 13 = .ok (.iconst 1, 1) := by decide +kernel
theorem dL_readBytes_14 : decode cL_readBytes 14 = .ok (.ireturn, 1) := by decide +kernel
theorem dL_readBytes_15 : decode cL_readBytes 15 = .ok (.astore_n 3, 1) := by decide +kernel
theorem dL_readBytes_16 : decode cL_readBytes 16 = .ok (.iconst 2, 1) := by decide +kernel
theorem dL_readBytes_17 : decode cL_readBytes 17 = .ok (.ireturn, 1) := by decide +kernel
theorem dX11_readBytes_0 : decode cX11_readBytes 0 = .ok (.aload_n 0, 1) := by decide +kernel
theorem dX11_readBytes_1 : decode cX11_readBytes 1 = .ok (.getfield 105, 3) := by decide +kernel
theorem dX11_readBytes_4 : decode cX11_readBytes 4 = .ok (.istore_n 2, 1) := by decide +kernel
theorem dX11_readBytes_5 : decode cX11_readBytes 5 = .ok (.aload_n 0, 1) := by decide +kernel
theorem dX11_readBytes_6 : decode cX11_readBytes 6 = .ok (.iconst 0, 1) := by decide +kernel
theorem dX11_readBytes_7 : decode cX11_readBytes 7 = .ok (.putfield 105, 3) := by decide +kernel
theorem dX11_readBytes_10 : decode cX11_readBytes 10 = .ok (.aload_n 0, 1) := by decide +kernel
theorem dX11_readBytes_11 : decode cX11_readBytes 11 = .ok (.iload_n 1, 1) := by decide +kernel
theorem dX11_readBytes_12 : decode cX11_readBytes 12 = .ok (.invokevirtual 140, 3) := by decide +kernel
theorem dX11_readBytes_15 : decode cX11_readBytes 15 = .ok (.astore_n 3, 1) := by decide +kernel
theorem dX11_readBytes_16 : decode cX11_readBytes 16 = .ok (.aload_n 0, 1) := by decide +kernel
theorem dX11_readBytes_17 : decode cX11_readBytes 17 = .ok (.getfield 37, 3) := by decide +kernel
theorem dX11_readBytes_20 : decode cX11_readBytes 20 = .ok (.aload_n 3, 1) := by decide +kernel
theorem dX11_readBytes_21 : decode cX11_readBytes 21 = .ok (.iload_n 2, 1) := by decide +kernel
theorem dX11_readBytes_22 : decode cX11_readBytes 22 = .ok (.invokevirtual 158, 3) := by decide +kernel
theorem dX11_readBytes_25 : decode cX11_readBytes 25 = .ok (.istore 4, 2) := by decide +kernel
theorem dX11_readBytes_27 : decode cX11_readBytes 27 = .ok (.aload_n 0, 1) := by decide +kernel
theorem dX11_readBytes_28 : decode cX11_readBytes 28 = .ok (.aload_n 3, 1) := by decide +kernel
theorem dX11_readBytes_29 : decode cX11_readBytes 29 = .ok (.iload 4, 2) := by decide +kernel
theorem dX11_readBytes_31 : decode cX11_readBytes 31 = .ok (.aload_n 0, 1) := by decide +kernel
theorem dX11_readBytes_32 : decode cX11_readBytes 32 = .ok (.getfield 37, 3) := by decide +kernel
theorem dX11_readBytes_35 : decode cX11_readBytes 35 = .ok (.getfield 159, 3) := by decide +kernel
theorem dX11_readBytes_38 : decode cX11_readBytes 38 = .ok (.aload_n 0, 1) := by decide +kernel
theorem dX11_readBytes_39 : decode cX11_readBytes 39 = .ok (.getfield 37, 3) := by decide +kernel
theorem dX11_readBytes_42 : decode cX11_readBytes 42 = .ok (.getfield 160, 3) := by decide +kernel
theorem dX11_readBytes_45 : decode cX11_readBytes 45 = .ok (.invokevirtual 154, 3) := by decide +kernel
theorem dX12_readBytes_0 : decode cX12_readBytes 0 = .ok (.aload_n 0, 1) := by decide +kernel
theorem dX12_readBytes_1 : decode cX12_readBytes 1 = .ok (.iload_n 1, 1) := by decide +kernel
theorem dX12_readBytes_2 : decode cX12_readBytes 2 = .ok (.iconst 0, 1) := by decide +kernel
theorem dX12_readBytes_3 : decode cX12_readBytes 3 = .ok (.invokevirtual 453, 3) := by decide +kernel
theorem dX12_readBytes_6 : decode cX12_readBytes 6 = .ok (.ireturn, 1) := by decide +kernel
theorem dX0_readInto_0 : decode cX0_readInto 0 = .ok (.aload_n 0, 1) := by decide +kernel
theorem dX0_readInto_1 : decode cX0_readInto 1 = .ok (.aload_n 1, 1) := by decide +kernel
theorem dX0_readInto_2 : decode cX0_readInto 2 = .ok (.putfield 27, 3) := by decide +kernel
theorem dX0_readInto_5 : decode cX0_readInto 5 = .ok (.aload_n 0, 1) := by decide +kernel
theorem dX0_readInto_6 : decode cX0_readInto 6 = .ok (.getfield 27, 3) := by decide +kernel
theorem dX0_readInto_9 : decode cX0_readInto 9 = .ok (.invokevirtual 31, 3) := by decide +kernel
theorem dX0_readInto_12 : decode cX0_readInto 12 = .ok (.aload_n 0, 1) := by decide +kernel
theorem dX0_readInto_13 : decode cX0_readInto 13 = .ok (.iload_n 2, 1) := by decide +kernel
theorem dX0_readInto_14 : decode cX0_readInto 14 = .ok (.aload_n 0, 1) := by decide +kernel
theorem dX0_readInto_15 : decode cX0_readInto 15 = .ok (.getfield 23, 3) := by decide +kernel
theorem dX0_readInto_18 : decode cX0_readInto 18 = .ok (.arraylength, 1) := by decide +kernel
theorem dX0_readInto_19 : decode cX0_readInto 19 = .ok (.invokestatic 36, 3) := by decide +kernel
theorem dX0_readInto_22 : decode cX0_readInto 22 = .ok (.putfield 42, 3) := by decide +kernel
theorem dX0_readInto_25 : decode cX0_readInto 25 = .ok (.aload_n 0, 1) := by decide +kernel
theorem dX0_readInto_26 : decode cX0_readInto 26 = .ok (.iconst 0, 1) := by decide +kernel
theorem dX0_readInto_27 : decode cX0_readInto 27 = .ok (.putfield 45, 3) := by decide +kernel
theorem dX0_readInto_30 : decode cX0_readInto 30 = .ok (.aload_n 0, 1) := by decide +kernel
theorem dX0_readInto_31 : decode cX0_readInto 31 = .ok (.iconst 0, 1) := by decide +kernel
theorem dX0_readInto_32 : decode cX0_readInto 32 = .ok (.putfield 48, 3) := by decide +kernel
theorem dX0_readInto_35 : decode cX0_readInto 35 = .ok (.aload_n 0, 1) := by decide +kernel
theorem dX0_readInto_36 : decode cX0_readInto 36 = .ok (.iconst 0, 1) := by decide +kernel
theorem dX0_readInto_37 : decode cX0_readInto 37 = .ok (.putfield 51, 3) := by decide +kernel
theorem dX0_readInto_40 : decode cX0_readInto 40 = .ok (.aload_n 0, 1) := by decide +kernel
theorem dX0_readInto_41 : decode cX0_readInto 41 = .ok (.iconst 0, 1) := by decide +kernel
theorem dX0_readInto_42 : decode cX0_readInto 42 = .ok (.putfield 54, 3) := by decide +kernel
theorem dX0_readInto_45 : decode cX0_readInto 45 = .ok (.aload_n 0, 1) := by decide +kernel
theorem dX0_readInto_46 : decode cX0_readInto 46 = .ok (.iconst 0, 1) := by decide +kernel
theorem dX0_readInto_47 : decode cX0_readInto 47 = .ok (.putfield 57, 3) := by decide +kernel
theorem dX0_readInto_50 : decode cX0_readInto 50 = .ok (.aload_n 0, 1) := by decide +kernel
theorem dX0_readInto_51 : decode cX0_readInto 51 = .ok (.iconst 0, 1) := by decide +kernel
theorem dX0_readInto_52 : decode cX0_readInto 52 = .ok (.invokevirtual 60, 3) := by decide +kernel
theorem dX0_readInto_55 : decode cX0_readInto 55 = .ok (.istore_n 3, 1) := by decide +kernel
theorem dX0_readInto_56 : decode cX0_readInto 56 = .ok (.iconst 0, 1) := by decide +kernel
theorem dX0_readInto_57 : decode cX0_readInto 57 = .ok (.istore 4, 2) := by decide +kernel
theorem dX0_readInto_59 : decode cX0_readInto 59 = .ok (.iload_n 3, 1) := by decide +kernel
theorem dX0_readInto_60 : decode cX0_readInto 60 = .ok (.ifCond .eq 72, 3) := by decide +kernel
theorem dX0_readInto_132 : decode cX0_readInto 132 = .ok (.iload_n 3, 1) := by decide +kernel
theorem dX0_readInto_133 : decode cX0_readInto 133 = .ok (.ifCond .eq 27, 3) := by decide +kernel
theorem dX0_readInto_160 : decode cX0_readInto 160 = .ok (.iconst 0, 1) := by decide +kernel
theorem dX0_readInto_161 : decode cX0_readInto 161 = .ok (.ireturn, 1) := by decide +kernel
theorem dX0_readShape_0 : decode cX0_readShape 0 = .ok (.aload_n 0, 1) := by decide +kernel
theorem dX0_readShape_1 : decode cX0_readShape 1 = .ok (.iconst 1, 1) := by decide +kernel
theorem dX0_readShape_2 : decode cX0_readShape 2 = .ok (.invokevirtual 75, 3) := by decide +kernel
theorem dX0_readShape_5 : decode cX0_readShape 5 = .ok (.ifCond .ne 9, 3) := by decide +kernel
theorem dX0_readShape_8 : decode cX0_readShape 8 = .ok (.aload_n 0, 1) := by decide +kernel
theorem dX0_readShape_9 : decode cX0_readShape 9 = .ok (.iconst 3, 1) := by decide +kernel
theorem dX0_readShape_10 : decode cX0_readShape 10 = .ok (.invokevirtual 68, 3) := by decide +kernel
theorem dX0_readShape_13 : decode cX0_readShape 13 = .ok (.ireturn, 1) := by decide +kernel
theorem dX0_has_0 : decode cX0_has 0 = .ok (.aload_n 0, 1) := by decide +kernel
theorem dX0_has_1 : decode cX0_has 1 = .ok (.getfield 42, 3) := by decide +kernel
theorem dX0_has_4 : decode cX0_has 4 = .ok (.aload_n 0, 1) := by decide +kernel
theorem dX0_has_5 : decode cX0_has 5 = .ok (.getfield 45, 3) := by decide +kernel
theorem dX0_has_8 : decode cX0_has 8 = .ok (.isub, 1) := by decide +kernel
theorem dX0_has_9 : decode cX0_has 9 = .ok (.iload_n 1, 1) := by decide +kernel
theorem dX0_has_10 : decode cX0_has 10 = .ok (.if_icmp .lt 7, 3) := by decide +kernel
theorem dX0_has_17 : decode cX0_has 17 = .ok (.iconst 0, 1) := by decide +kernel
theorem dX0_has_18 : decode cX0_has 18 = .ok (.ireturn, 1) := by decide +kernel
theorem dX0_fail_0 : decode cX0_fail 0 = .ok (.aload_n 0, 1) := by decide +kernel
theorem dX0_fail_1 : decode cX0_fail 1 = .ok (.iload_n 1, 1) := by decide +kernel
theorem dX0_fail_2 : decode cX0_fail 2 = .ok (.putfield 54, 3) := by decide +kernel
theorem dX0_fail_5 : decode cX0_fail 5 = .ok (.aload_n 0, 1) := by decide +kernel
theorem dX0_fail_6 : decode cX0_fail 6 = .ok (.aload_n 0, 1) := by decide +kernel
theorem dX0_fail_7 : decode cX0_fail 7 = .ok (.getfield 45, 3) := by decide +kernel
theorem dX0_fail_10 : decode cX0_fail 10 = .ok (.putfield 57, 3) := by decide +kernel
theorem dX0_fail_13 : decode cX0_fail 13 = .ok (.iconst 0, 1) := by decide +kernel
theorem dX0_fail_14 : decode cX0_fail 14 = .ok (.ireturn, 1) := by decide +kernel
theorem dX12_bytes_0 : decode cX12_bytes 0 = .ok (.aload_n 0, 1) := by decide +kernel
theorem dX12_bytes_1 : decode cX12_bytes 1 = .ok (.iconst 0, 1) := by decide +kernel
theorem dX12_bytes_2 : decode cX12_bytes 2 = .ok (.putfield 300, 3) := by decide +kernel
theorem dX12_bytes_5 : decode cX12_bytes 5 = .ok (.aload_n 0, 1) := by decide +kernel
theorem dX12_bytes_6 : decode cX12_bytes 6 = .ok (.iconst 0, 1) := by decide +kernel
theorem dX12_bytes_7 : decode cX12_bytes 7 = .ok (.putfield 355, 3) := by decide +kernel
theorem dX12_bytes_10 : decode cX12_bytes 10 = .ok (.aload_n 0, 1) := by decide +kernel
theorem dX12_bytes_11 : decode cX12_bytes 11 = .ok (.iconst 0, 1) := by decide +kernel
theorem dX12_bytes_12 : decode cX12_bytes 12 = .ok (.putfield 462, 3) := by decide +kernel
theorem dX12_bytes_15 : decode cX12_bytes 15 = .ok (.aload_n 0, 1) := by decide +kernel
theorem dX12_bytes_16 : decode cX12_bytes 16 = .ok (.bipush 32, 2) := by decide +kernel
theorem dX12_bytes_18 : decode cX12_bytes 18 = .ok (.invokevirtual 358, 3) := by decide +kernel
theorem dX12_bytes_21 : decode cX12_bytes 21 = .ok (.aload_n 0, 1) := by decide +kernel
theorem dX12_bytes_22 : decode cX12_bytes 22 = .ok (.iconst 0, 1) := by decide +kernel
theorem dX12_bytes_23 : decode cX12_bytes 23 = .ok (.invokevirtual 465, 3) := by decide +kernel
theorem dX12_bytes_26 : decode cX12_bytes 26 = .ok (.istore_n 1, 1) := by decide +kernel
theorem dX12_bytes_27 : decode cX12_bytes 27 = .ok (.iload_n 1, 1) := by decide +kernel
theorem dX12_bytes_28 : decode cX12_bytes 28 = .ok (.ifCond .eq 91, 3) := by decide +kernel
theorem dX12_bytes_119 : decode cX12_bytes 119 = .ok (.iload_n 1, 1) := by decide +kernel
theorem dX12_bytes_120 : decode cX12_bytes 120 = .ok (.ifCond .eq 31, 3) := by decide +kernel
theorem dX12_bytes_151 : decode cX12_bytes 151 = .ok (.iconst 0, 1) := by decide +kernel
theorem dX12_bytes_152 : decode cX12_bytes 152 = .ok (.ireturn, 1) := by decide +kernel
theorem dX12_shapeOfBytes_0 : decode cX12_shapeOfBytes 0 = .ok (.aload_n 0, 1) := by decide +kernel
theorem dX12_shapeOfBytes_1 : decode cX12_shapeOfBytes 1 = .ok (.iconst 1, 1) := by decide +kernel
theorem dX12_shapeOfBytes_2 : decode cX12_shapeOfBytes 2 = .ok (.invokevirtual 468, 3) := by decide +kernel
theorem dX12_shapeOfBytes_5 : decode cX12_shapeOfBytes 5 = .ok (.ifCond .ne 13, 3) := by decide +kernel
theorem dX12_shapeOfBytes_8 : decode cX12_shapeOfBytes 8 = .ok (.aload_n 0, 1) := by decide +kernel
theorem dX12_shapeOfBytes_9 : decode cX12_shapeOfBytes 9 = .ok (.iconst 3, 1) := by decide +kernel
theorem dX12_shapeOfBytes_10 : decode cX12_shapeOfBytes 10 = .ok (.aload_n 0, 1) := by decide +kernel
theorem dX12_shapeOfBytes_11 : decode cX12_shapeOfBytes 11 = .ok (.getfield 300, 3) := by decide +kernel
theorem dX12_shapeOfBytes_14 : decode cX12_shapeOfBytes 14 = .ok (.invokevirtual 317, 3) := by decide +kernel
theorem dX12_shapeOfBytes_17 : decode cX12_shapeOfBytes 17 = .ok (.ireturn, 1) := by decide +kernel
theorem dX12_there_0 : decode cX12_there 0 = .ok (.aload_n 0, 1) := by decide +kernel
theorem dX12_there_1 : decode cX12_there 1 = .ok (.getfield 300, 3) := by decide +kernel
theorem dX12_there_4 : decode cX12_there 4 = .ok (.iload_n 1, 1) := by decide +kernel
theorem dX12_there_5 : decode cX12_there 5 = .ok (.iadd, 1) := by decide +kernel
theorem dX12_there_6 : decode cX12_there 6 = .ok (.aload_n 0, 1) := by decide +kernel
theorem dX12_there_7 : decode cX12_there 7 = .ok (.getfield 303, 3) := by decide +kernel
theorem dX12_there_10 : decode cX12_there 10 = .ok (.if_icmp .gt 7, 3) := by decide +kernel
theorem dX12_there_17 : decode cX12_there 17 = .ok (.iconst 0, 1) := by decide +kernel
theorem dX12_there_18 : decode cX12_there 18 = .ok (.ireturn, 1) := by decide +kernel
theorem dL_feed_0 : decode cL_feed 0 = .ok (.aload 6, 2) := by decide +kernel
theorem dL_feed_2 : decode cL_feed 2 = .ok (.iconst 0, 1) := by decide +kernel
theorem dL_feed_3 : decode cL_feed 3 = .ok (.aload_n 0, 1) := by decide +kernel
theorem dL_feed_4 : decode cL_feed 4 = .ok (.iload_n 1, 1) := by decide +kernel
theorem dL_feed_5 : decode cL_feed 5 = .ok (.iload_n 2, 1) := by decide +kernel
theorem dL_feed_6 : decode cL_feed 6 = .ok (.iload_n 3, 1) := by decide +kernel
theorem dL_feed_7 : decode cL_feed 7 = .ok (.iload 4, 2) := by decide +kernel
theorem dL_feed_9 : decode cL_feed 9 = .ok (.iload 5, 2) := by decide +kernel
theorem dL_feed_11 : decode cL_feed 11 = .ok (.invokevirtual 7, 3) := by decide +kernel
theorem dL_feed_14 : decode cL_feed 14 = .ok (.i2l, 1) := by decide +kernel
theorem dL_feed_15 : decode cL_feed 15 = .ok (.lastore, 1) := by decide +kernel
theorem dL_feed_16 : decode cL_feed 16 = .ok (.goto 7, 3) := by decide +kernel
theorem dL_feed_23 : decode cL_feed 23 = .ok (.iconst 0, 1) := by decide +kernel
theorem dL_feed_24 : decode cL_feed 24 = .ok (.ireturn, 1) := by decide +kernel
theorem dX11_feed_0 : decode cX11_feed 0 = .ok (.aload_n 0, 1) := by decide +kernel
theorem dX11_feed_1 : decode cX11_feed 1 = .ok (.getfield 105, 3) := by decide +kernel
theorem dX11_feed_4 : decode cX11_feed 4 = .ok (.ldc 109, 2) := by decide +kernel
theorem dX11_feed_6 : decode cX11_feed 6 = .ok (.if_icmp .le 11, 3) := by decide +kernel
theorem dX11_feed_17 : decode cX11_feed 17 = .ok (.aload_n 0, 1) := by decide +kernel
theorem dX11_feed_18 : decode cX11_feed 18 = .ok (.iload_n 1, 1) := by decide +kernel
theorem dX11_feed_19 : decode cX11_feed 19 = .ok (.invokevirtual 113, 3) := by decide +kernel
theorem dX11_feed_22 : decode cX11_feed 22 = .ok (.aload_n 0, 1) := by decide +kernel
theorem dX11_feed_23 : decode cX11_feed 23 = .ok (.iload_n 2, 1) := by decide +kernel
theorem dX11_feed_24 : decode cX11_feed 24 = .ok (.invokevirtual 113, 3) := by decide +kernel
theorem dX11_feed_27 : decode cX11_feed 27 = .ok (.aload_n 0, 1) := by decide +kernel
theorem dX11_feed_28 : decode cX11_feed 28 = .ok (.iload_n 3, 1) := by decide +kernel
theorem dX11_feed_29 : decode cX11_feed 29 = .ok (.invokevirtual 113, 3) := by decide +kernel
theorem dX11_feed_32 : decode cX11_feed 32 = .ok (.aload_n 0, 1) := by decide +kernel
theorem dX11_feed_33 : decode cX11_feed 33 = .ok (.iload 4, 2) := by decide +kernel
theorem dX11_feed_35 : decode cX11_feed 35 = .ok (.invokevirtual 113, 3) := by decide +kernel
theorem dX11_feed_38 : decode cX11_feed 38 = .ok (.aload_n 0, 1) := by decide +kernel
theorem dX11_feed_39 : decode cX11_feed 39 = .ok (.iload 5, 2) := by decide +kernel
theorem dX11_feed_41 : decode cX11_feed 41 = .ok (.invokevirtual 113, 3) := by decide +kernel
theorem dX11_feed_44 : decode cX11_feed 44 = .ok (.aload_n 0, 1) := by decide +kernel
theorem dX11_feed_45 : decode cX11_feed 45 = .ok (.getfield 105, 3) := by decide +kernel
theorem dX11_feed_48 : decode cX11_feed 48 = .ok (.ireturn, 1) := by decide +kernel
theorem dX11_layOnTape_0 : decode cX11_layOnTape 0 = .ok (.bipush 24, 2) := by decide +kernel
theorem dX11_layOnTape_2 : decode cX11_layOnTape 2 = .ok (.istore_n 2, 1) := by decide +kernel
theorem dX11_layOnTape_3 : decode cX11_layOnTape 3 = .ok (.iload_n 2, 1) := by decide +kernel
theorem dX11_layOnTape_4 : decode cX11_layOnTape 4 = .ok (.ifCond .lt 41, 3) := by decide +kernel
theorem dX11_layOnTape_7 : decode cX11_layOnTape 7 = .ok (.aload_n 0, 1) := by decide +kernel
theorem dX11_layOnTape_8 : decode cX11_layOnTape 8 = .ok (.getfield 105, 3) := by decide +kernel
theorem dX11_layOnTape_11 : decode cX11_layOnTape 11 = .ok (.ldc 20, 2) := by decide +kernel
theorem dX11_layOnTape_13 : decode cX11_layOnTape 13 = .ok (.if_icmp .ge 32, 3) := by decide +kernel
theorem dX11_layOnTape_16 : decode cX11_layOnTape 16 = .ok (.aload_n 0, 1) := by decide +kernel
theorem dX11_layOnTape_17 : decode cX11_layOnTape 17 = .ok (.getfield 21, 3) := by decide +kernel
theorem dX11_layOnTape_20 : decode cX11_layOnTape 20 = .ok (.aload_n 0, 1) := by decide +kernel
theorem dX11_layOnTape_21 : decode cX11_layOnTape 21 = .ok (.getfield 105, 3) := by decide +kernel
theorem dX11_layOnTape_24 : decode cX11_layOnTape 24 = .ok (.iload_n 1, 1) := by decide +kernel
theorem dX11_layOnTape_25 : decode cX11_layOnTape 25 = .ok (.iload_n 2, 1) := by decide +kernel
theorem dX11_layOnTape_26 : decode cX11_layOnTape 26 = .ok (.iushr, 1) := by decide +kernel
theorem dX11_layOnTape_27 : decode cX11_layOnTape 27 = .ok (.i2b, 1) := by decide +kernel
theorem dX11_layOnTape_28 : decode cX11_layOnTape 28 = .ok (.bastore, 1) := by decide +kernel
theorem dX11_layOnTape_29 : decode cX11_layOnTape 29 = .ok (.aload_n 0, 1) := by decide +kernel
theorem dX11_layOnTape_30 : decode cX11_layOnTape 30 = .ok (.dup, 1) := by decide +kernel
theorem dX11_layOnTape_31 : decode cX11_layOnTape 31 = .ok (.getfield 105, 3) := by decide +kernel
theorem dX11_layOnTape_34 : decode cX11_layOnTape 34 = .ok (.iconst 1, 1) := by decide +kernel
theorem dX11_layOnTape_35 : decode cX11_layOnTape 35 = .ok (.iadd, 1) := by decide +kernel
theorem dX11_layOnTape_36 : decode cX11_layOnTape 36 = .ok (.putfield 105, 3) := by decide +kernel
theorem dX11_layOnTape_39 : decode cX11_layOnTape 39 = .ok (.iinc 2 (-8), 3) := by decide +kernel
theorem dX11_layOnTape_42 : decode cX11_layOnTape 42 = .ok (.goto (-39), 3) := by decide +kernel
theorem dX11_layOnTape_45 : decode cX11_layOnTape 45 = .ok (.return_, 1) := by decide +kernel
theorem dX12_feed_0 : decode cX12_feed 0 = .ok (.aload_n 0, 1) := by decide +kernel
theorem dX12_feed_1 : decode cX12_feed 1 = .ok (.iconst 0, 1) := by decide +kernel
theorem dX12_feed_2 : decode cX12_feed 2 = .ok (.putfield 271, 3) := by decide +kernel
theorem dX12_feed_5 : decode cX12_feed 5 = .ok (.aload_n 0, 1) := by decide +kernel
theorem dX12_feed_6 : decode cX12_feed 6 = .ok (.aload_n 0, 1) := by decide +kernel
theorem dX12_feed_7 : decode cX12_feed 7 = .ok (.getfield 274, 3) := by decide +kernel
theorem dX12_feed_10 : decode cX12_feed 10 = .ok (.bipush 20, 2) := by decide +kernel
theorem dX12_feed_12 : decode cX12_feed 12 = .ok (.iadd, 1) := by decide +kernel
theorem dX12_feed_13 : decode cX12_feed 13 = .ok (.ldc 7, 2) := by decide +kernel
theorem dX12_feed_15 : decode cX12_feed 15 = .ok (.if_icmp .le 7, 3) := by decide +kernel
theorem dX12_feed_22 : decode cX12_feed 22 = .ok (.iconst 0, 1) := by decide +kernel
theorem dX12_feed_23 : decode cX12_feed 23 = .ok (.iconst 1, 1) := by decide +kernel
theorem dX12_feed_24 : decode cX12_feed 24 = .ok (.invokevirtual 277, 3) := by decide +kernel
theorem dX12_feed_27 : decode cX12_feed 27 = .ok (.ifCond .eq 5, 3) := by decide +kernel
theorem dX12_feed_32 : decode cX12_feed 32 = .ok (.aload_n 0, 1) := by decide +kernel
theorem dX12_feed_33 : decode cX12_feed 33 = .ok (.iload_n 1, 1) := by decide +kernel
theorem dX12_feed_34 : decode cX12_feed 34 = .ok (.invokevirtual 281, 3) := by decide +kernel
theorem dX12_feed_37 : decode cX12_feed 37 = .ok (.aload_n 0, 1) := by decide +kernel
theorem dX12_feed_38 : decode cX12_feed 38 = .ok (.iload_n 2, 1) := by decide +kernel
theorem dX12_feed_39 : decode cX12_feed 39 = .ok (.invokevirtual 281, 3) := by decide +kernel
theorem dX12_feed_42 : decode cX12_feed 42 = .ok (.aload_n 0, 1) := by decide +kernel
theorem dX12_feed_43 : decode cX12_feed 43 = .ok (.iload_n 3, 1) := by decide +kernel
theorem dX12_feed_44 : decode cX12_feed 44 = .ok (.invokevirtual 281, 3) := by decide +kernel
theorem dX12_feed_47 : decode cX12_feed 47 = .ok (.aload_n 0, 1) := by decide +kernel
theorem dX12_feed_48 : decode cX12_feed 48 = .ok (.iload 4, 2) := by decide +kernel
theorem dX12_feed_50 : decode cX12_feed 50 = .ok (.invokevirtual 281, 3) := by decide +kernel
theorem dX12_feed_53 : decode cX12_feed 53 = .ok (.aload_n 0, 1) := by decide +kernel
theorem dX12_feed_54 : decode cX12_feed 54 = .ok (.iload 5, 2) := by decide +kernel
theorem dX12_feed_56 : decode cX12_feed 56 = .ok (.invokevirtual 281, 3) := by decide +kernel
theorem dX12_feed_59 : decode cX12_feed 59 = .ok (.aload_n 0, 1) := by decide +kernel
theorem dX12_feed_60 : decode cX12_feed 60 = .ok (.getfield 274, 3) := by decide +kernel
theorem dX12_feed_63 : decode cX12_feed 63 = .ok (.ireturn, 1) := by decide +kernel
theorem dX12_four_0 : decode cX12_four 0 = .ok (.bipush 24, 2) := by decide +kernel
theorem dX12_four_2 : decode cX12_four 2 = .ok (.istore_n 2, 1) := by decide +kernel
theorem dX12_four_3 : decode cX12_four 3 = .ok (.iload_n 2, 1) := by decide +kernel
theorem dX12_four_4 : decode cX12_four 4 = .ok (.ifCond .lt 32, 3) := by decide +kernel
theorem dX12_four_7 : decode cX12_four 7 = .ok (.aload_n 0, 1) := by decide +kernel
theorem dX12_four_8 : decode cX12_four 8 = .ok (.getfield 8, 3) := by decide +kernel
theorem dX12_four_11 : decode cX12_four 11 = .ok (.aload_n 0, 1) := by decide +kernel
theorem dX12_four_12 : decode cX12_four 12 = .ok (.getfield 274, 3) := by decide +kernel
theorem dX12_four_15 : decode cX12_four 15 = .ok (.iload_n 1, 1) := by decide +kernel
theorem dX12_four_16 : decode cX12_four 16 = .ok (.iload_n 2, 1) := by decide +kernel
theorem dX12_four_17 : decode cX12_four 17 = .ok (.ishr, 1) := by decide +kernel
theorem dX12_four_18 : decode cX12_four 18 = .ok (.i2b, 1) := by decide +kernel
theorem dX12_four_19 : decode cX12_four 19 = .ok (.bastore, 1) := by decide +kernel
theorem dX12_four_20 : decode cX12_four 20 = .ok (.aload_n 0, 1) := by decide +kernel
theorem dX12_four_21 : decode cX12_four 21 = .ok (.dup, 1) := by decide +kernel
theorem dX12_four_22 : decode cX12_four 22 = .ok (.getfield 274, 3) := by decide +kernel
theorem dX12_four_25 : decode cX12_four 25 = .ok (.iconst 1, 1) := by decide +kernel
theorem dX12_four_26 : decode cX12_four 26 = .ok (.iadd, 1) := by decide +kernel
theorem dX12_four_27 : decode cX12_four 27 = .ok (.putfield 274, 3) := by decide +kernel
theorem dX12_four_30 : decode cX12_four 30 = .ok (.iinc 2 (-8), 3) := by decide +kernel
theorem dX12_four_33 : decode cX12_four 33 = .ok (.goto (-30), 3) := by decide +kernel
theorem dX12_four_36 : decode cX12_four 36 = .ok (.return_, 1) := by decide +kernel
theorem dL_law_192 : decode cL_law 192 = .ok (.aload_n 1, 1) := by decide +kernel
theorem dL_law_193 : decode cL_law 193 = .ok (.aload_n 0, 1) := by decide +kernel
theorem dL_law_194 : decode cL_law 194 = .ok (.iload 4, 2) := by decide +kernel
theorem dL_law_196 : decode cL_law 196 = .ok (.iconst 1, 1) := by decide +kernel
theorem dL_law_197 : decode cL_law 197 = .ok (.iadd, 1) := by decide +kernel
theorem dL_law_198 : decode cL_law 198 = .ok (.iaload, 1) := by decide +kernel
theorem dL_law_199 : decode cL_law 199 = .ok (.aload_n 0, 1) := by decide +kernel
theorem dL_law_200 : decode cL_law 200 = .ok (.iload 4, 2) := by decide +kernel
theorem dL_law_202 : decode cL_law 202 = .ok (.iconst 2, 1) := by decide +kernel
theorem dL_law_203 : decode cL_law 203 = .ok (.iadd, 1) := by decide +kernel
theorem dL_law_204 : decode cL_law 204 = .ok (.iaload, 1) := by decide +kernel
theorem dL_law_205 : decode cL_law 205 = .ok (.aload_n 0, 1) := by decide +kernel
theorem dL_law_206 : decode cL_law 206 = .ok (.iload 4, 2) := by decide +kernel
theorem dL_law_208 : decode cL_law 208 = .ok (.iconst 3, 1) := by decide +kernel
theorem dL_law_209 : decode cL_law 209 = .ok (.iadd, 1) := by decide +kernel
theorem dL_law_210 : decode cL_law 210 = .ok (.iaload, 1) := by decide +kernel
theorem dL_law_211 : decode cL_law 211 = .ok (.aload_n 0, 1) := by decide +kernel
theorem dL_law_212 : decode cL_law 212 = .ok (.iload 4, 2) := by decide +kernel
theorem dL_law_214 : decode cL_law 214 = .ok (.iconst 4, 1) := by decide +kernel
theorem dL_law_215 : decode cL_law 215 = .ok (.iadd, 1) := by decide +kernel
theorem dL_law_216 : decode cL_law 216 = .ok (.iaload, 1) := by decide +kernel
theorem dL_law_217 : decode cL_law 217 = .ok (.aload_n 0, 1) := by decide +kernel
theorem dL_law_218 : decode cL_law 218 = .ok (.iload 4, 2) := by decide +kernel
theorem dL_law_220 : decode cL_law 220 = .ok (.iconst 5, 1) := by decide +kernel
theorem dL_law_221 : decode cL_law 221 = .ok (.iadd, 1) := by decide +kernel
theorem dL_law_222 : decode cL_law 222 = .ok (.iaload, 1) := by decide +kernel
theorem dL_law_223 : decode cL_law 223 = .ok (.aload_n 3, 1) := by decide +kernel
theorem dL_law_224 : decode cL_law 224 = .ok (.invokestatic 132, 3) := by decide +kernel
theorem dL_law_227 : decode cL_law 227 = .ok (.istore 5, 2) := by decide +kernel
theorem dL_law_229 : decode cL_law 229 = .ok (.aload_n 2, 1) := by decide +kernel
theorem dL_law_230 : decode cL_law 230 = .ok (.aload_n 0, 1) := by decide +kernel
theorem dL_law_231 : decode cL_law 231 = .ok (.iload 4, 2) := by decide +kernel
theorem dL_law_233 : decode cL_law 233 = .ok (.iconst 1, 1) := by decide +kernel
theorem dL_law_234 : decode cL_law 234 = .ok (.iadd, 1) := by decide +kernel
theorem dL_law_235 : decode cL_law 235 = .ok (.iaload, 1) := by decide +kernel
theorem dL_law_236 : decode cL_law 236 = .ok (.aload_n 0, 1) := by decide +kernel
theorem dL_law_237 : decode cL_law 237 = .ok (.iload 4, 2) := by decide +kernel
theorem dL_law_239 : decode cL_law 239 = .ok (.iconst 2, 1) := by decide +kernel
theorem dL_law_240 : decode cL_law 240 = .ok (.iadd, 1) := by decide +kernel
theorem dL_law_241 : decode cL_law 241 = .ok (.iaload, 1) := by decide +kernel
theorem dL_law_242 : decode cL_law 242 = .ok (.aload_n 0, 1) := by decide +kernel
theorem dL_law_243 : decode cL_law 243 = .ok (.iload 4, 2) := by decide +kernel
theorem dL_law_245 : decode cL_law 245 = .ok (.iconst 3, 1) := by decide +kernel
theorem dL_law_246 : decode cL_law 246 = .ok (.iadd, 1) := by decide +kernel
theorem dL_law_247 : decode cL_law 247 = .ok (.iaload, 1) := by decide +kernel
theorem dL_law_248 : decode cL_law 248 = .ok (.aload_n 0, 1) := by decide +kernel
theorem dL_law_249 : decode cL_law 249 = .ok (.iload 4, 2) := by decide +kernel
theorem dL_law_251 : decode cL_law 251 = .ok (.iconst 4, 1) := by decide +kernel
theorem dL_law_252 : decode cL_law 252 = .ok (.iadd, 1) := by decide +kernel
theorem dL_law_253 : decode cL_law 253 = .ok (.iaload, 1) := by decide +kernel
theorem dL_law_254 : decode cL_law 254 = .ok (.aload_n 0, 1) := by decide +kernel
theorem dL_law_255 : decode cL_law 255 = .ok (.iload 4, 2) := by decide +kernel
theorem dL_law_257 : decode cL_law 257 = .ok (.iconst 5, 1) := by decide +kernel
theorem dL_law_258 : decode cL_law 258 = .ok (.iadd, 1) := by decide +kernel
theorem dL_law_259 : decode cL_law 259 = .ok (.iaload, 1) := by decide +kernel
theorem dL_law_260 : decode cL_law 260 = .ok (.invokevirtual 135, 3) := by decide +kernel
theorem dL_law_263 : decode cL_law 263 = .ok (.istore 6, 2) := by decide +kernel
theorem dL_law_265 : decode cL_law 265 = .ok (.aload_n 2, 1) := by decide +kernel
theorem dL_law_266 : decode cL_law 266 = .ok (.invokevirtual 136, 3) := by decide +kernel
theorem dL_law_269 : decode cL_law 269 = .ok (.iload 5, 2) := by decide +kernel
theorem dL_law_271 : decode cL_law 271 = .ok (.if_icmp .eq 5, 3) := by decide +kernel
theorem dL_law_276 : decode cL_law 276 = .ok (.iload 5, 2) := by decide +kernel
theorem dL_law_278 : decode cL_law 278 = .ok (.ifCond .ne 15, 3) := by decide +kernel
theorem dL_law_281 : decode cL_law 281 = .ok (.aload_n 3, 1) := by decide +kernel
theorem dL_law_282 : decode cL_law 282 = .ok (.iconst 0, 1) := by decide +kernel
theorem dL_law_283 : decode cL_law 283 = .ok (.laload, 1) := by decide +kernel
theorem dL_law_284 : decode cL_law 284 = .ok (.iload 6, 2) := by decide +kernel
theorem dL_law_286 : decode cL_law 286 = .ok (.i2l, 1) := by decide +kernel
theorem dL_law_287 : decode cL_law 287 = .ok (.lcmp, 1) := by decide +kernel
theorem dL_law_288 : decode cL_law 288 = .ok (.ifCond .eq 5, 3) := by decide +kernel
theorem dL_law_293 : decode cL_law 293 = .ok (.goto 2156, 3) := by decide +kernel
theorem dL_law_365 : decode cL_law 365 = .ok (.aload_n 1, 1) := by decide +kernel
theorem dL_law_366 : decode cL_law 366 = .ok (.aload_n 0, 1) := by decide +kernel
theorem dL_law_367 : decode cL_law 367 = .ok (.iload 4, 2) := by decide +kernel
theorem dL_law_369 : decode cL_law 369 = .ok (.iconst 1, 1) := by decide +kernel
theorem dL_law_370 : decode cL_law 370 = .ok (.iadd, 1) := by decide +kernel
theorem dL_law_371 : decode cL_law 371 = .ok (.iaload, 1) := by decide +kernel
theorem dL_law_372 : decode cL_law 372 = .ok (.aload_n 3, 1) := by decide +kernel
theorem dL_law_373 : decode cL_law 373 = .ok (.invokestatic 148, 3) := by decide +kernel
theorem dL_law_376 : decode cL_law 376 = .ok (.istore 5, 2) := by decide +kernel
theorem dL_law_378 : decode cL_law 378 = .ok (.aload_n 2, 1) := by decide +kernel
theorem dL_law_379 : decode cL_law 379 = .ok (.aload_n 0, 1) := by decide +kernel
theorem dL_law_380 : decode cL_law 380 = .ok (.iload 4, 2) := by decide +kernel
theorem dL_law_382 : decode cL_law 382 = .ok (.iconst 1, 1) := by decide +kernel
theorem dL_law_383 : decode cL_law 383 = .ok (.iadd, 1) := by decide +kernel
theorem dL_law_384 : decode cL_law 384 = .ok (.iaload, 1) := by decide +kernel
theorem dL_law_385 : decode cL_law 385 = .ok (.invokevirtual 150, 3) := by decide +kernel
theorem dL_law_388 : decode cL_law 388 = .ok (.istore 6, 2) := by decide +kernel
theorem dL_law_390 : decode cL_law 390 = .ok (.aload_n 2, 1) := by decide +kernel
theorem dL_law_391 : decode cL_law 391 = .ok (.invokevirtual 136, 3) := by decide +kernel
theorem dL_law_394 : decode cL_law 394 = .ok (.iload 5, 2) := by decide +kernel
theorem dL_law_396 : decode cL_law 396 = .ok (.if_icmp .eq 5, 3) := by decide +kernel
theorem dL_law_401 : decode cL_law 401 = .ok (.iload 5, 2) := by decide +kernel
theorem dL_law_403 : decode cL_law 403 = .ok (.ifCond .ne 15, 3) := by decide +kernel
theorem dL_law_418 : decode cL_law 418 = .ok (.goto 2031, 3) := by decide +kernel
theorem dL_law_421 : decode cL_law 421 = .ok (.aload_n 1, 1) := by decide +kernel
theorem dL_law_422 : decode cL_law 422 = .ok (.aload_n 0, 1) := by decide +kernel
theorem dL_law_423 : decode cL_law 423 = .ok (.iload 4, 2) := by decide +kernel
theorem dL_law_425 : decode cL_law 425 = .ok (.iconst 1, 1) := by decide +kernel
theorem dL_law_426 : decode cL_law 426 = .ok (.iadd, 1) := by decide +kernel
theorem dL_law_427 : decode cL_law 427 = .ok (.iaload, 1) := by decide +kernel
theorem dL_law_428 : decode cL_law 428 = .ok (.aload_n 3, 1) := by decide +kernel
theorem dL_law_429 : decode cL_law 429 = .ok (.invokestatic 151, 3) := by decide +kernel
theorem dL_law_432 : decode cL_law 432 = .ok (.istore 5, 2) := by decide +kernel
theorem dL_law_434 : decode cL_law 434 = .ok (.aload_n 2, 1) := by decide +kernel
theorem dL_law_435 : decode cL_law 435 = .ok (.aload_n 0, 1) := by decide +kernel
theorem dL_law_436 : decode cL_law 436 = .ok (.iload 4, 2) := by decide +kernel
theorem dL_law_438 : decode cL_law 438 = .ok (.iconst 1, 1) := by decide +kernel
theorem dL_law_439 : decode cL_law 439 = .ok (.iadd, 1) := by decide +kernel
theorem dL_law_440 : decode cL_law 440 = .ok (.iaload, 1) := by decide +kernel
theorem dL_law_441 : decode cL_law 441 = .ok (.invokevirtual 153, 3) := by decide +kernel
theorem dL_law_444 : decode cL_law 444 = .ok (.istore 6, 2) := by decide +kernel
theorem dL_law_446 : decode cL_law 446 = .ok (.aload_n 2, 1) := by decide +kernel
theorem dL_law_447 : decode cL_law 447 = .ok (.invokevirtual 136, 3) := by decide +kernel
theorem dL_law_450 : decode cL_law 450 = .ok (.iload 5, 2) := by decide +kernel
theorem dL_law_452 : decode cL_law 452 = .ok (.if_icmp .eq 5, 3) := by decide +kernel
theorem dL_law_457 : decode cL_law 457 = .ok (.iload 5, 2) := by decide +kernel
theorem dL_law_459 : decode cL_law 459 = .ok (.ifCond .ne 15, 3) := by decide +kernel
theorem dL_law_474 : decode cL_law 474 = .ok (.goto 1975, 3) := by decide +kernel
abbrev M_L_readWords : MRec := (yL_readWords, cL_readWords, 4, (some Jvm.ClassFile.FieldType.int), [((0 : Nat), (9 : Nat), (12 : Nat), (24 : Nat)), ((0 : Nat), (9 : Nat), (15 : Nat), (19 : Nat))])
theorem m_L_readWords : en_M M_L_readWords 3 := ⟨t_738, t_0, ⟨by decide +kernel, by decide +kernel⟩, by decide +kernel, by decide +kernel, by decide +kernel⟩
abbrev M_X11_readWords : MRec := (yX11_readWords, cX11_readWords, 5, (some Jvm.ClassFile.FieldType.int), [])
theorem m_X11_readWords : en_M M_X11_readWords 1 := ⟨t_743, t_1, ⟨by decide +kernel, by decide +kernel⟩, by decide +kernel, by decide +kernel, by decide +kernel⟩
abbrev M_X12_readWords : MRec := (yX12_readWords, cX12_readWords, 2, (some Jvm.ClassFile.FieldType.int), [])
theorem m_X12_readWords : en_M M_X12_readWords 1 := ⟨t_2836, t_14, ⟨by decide +kernel, by decide +kernel⟩, by decide +kernel, by decide +kernel, by decide +kernel⟩
abbrev M_X12_reads : MRec := (yX12_reads, cX12_reads, 4, (some Jvm.ClassFile.FieldType.int), [])
theorem m_X12_reads : en_M M_X12_reads 2 := ⟨t_2840, t_14, ⟨by decide +kernel, by decide +kernel⟩, by decide +kernel, by decide +kernel, by decide +kernel⟩
abbrev M_X9_readInto : MRec := (yX9_readInto, cX9_readInto, 6, (some Jvm.ClassFile.FieldType.boolean), [])
theorem m_X9_readInto : en_M M_X9_readInto 2 := ⟨t_766, t_3, ⟨by decide +kernel, by decide +kernel⟩, by decide +kernel, by decide +kernel, by decide +kernel⟩
abbrev M_X9_readShape : MRec := (yX9_readShape, cX9_readShape, 2, (some Jvm.ClassFile.FieldType.boolean), [])
theorem m_X9_readShape : en_M M_X9_readShape 0 := ⟨t_775, t_3, ⟨by decide +kernel, by decide +kernel⟩, by decide +kernel, by decide +kernel, by decide +kernel⟩
abbrev M_X9_skipBlanks : MRec := (yX9_skipBlanks, cX9_skipBlanks, 1, none, [])
theorem m_X9_skipBlanks : en_M M_X9_skipBlanks 0 := ⟨t_779, t_3, ⟨by decide +kernel, by decide +kernel⟩, by decide +kernel, by decide +kernel, by decide +kernel⟩
abbrev M_X9_signAt : MRec := (yX9_signAt, cX9_signAt, 2, (some Jvm.ClassFile.FieldType.int), [])
theorem m_X9_signAt : en_M M_X9_signAt 1 := ⟨t_786, t_3, ⟨by decide +kernel, by decide +kernel⟩, by decide +kernel, by decide +kernel, by decide +kernel⟩
abbrev M_X9_isLetter : MRec := (yX9_isLetter, cX9_isLetter, 1, (some Jvm.ClassFile.FieldType.boolean), [])
theorem m_X9_isLetter : en_M M_X9_isLetter 1 := ⟨t_789, t_3, ⟨by decide +kernel, by decide +kernel⟩, by decide +kernel, by decide +kernel, by decide +kernel⟩
abbrev M_X9_unexpected : MRec := (yX9_unexpected, cX9_unexpected, 3, (some Jvm.ClassFile.FieldType.boolean), [])
theorem m_X9_unexpected : en_M M_X9_unexpected 0 := ⟨t_793, t_3, ⟨by decide +kernel, by decide +kernel⟩, by decide +kernel, by decide +kernel, by decide +kernel⟩
abbrev M_X9_fail : MRec := (yX9_fail, cX9_fail, 2, (some Jvm.ClassFile.FieldType.boolean), [])
theorem m_X9_fail : en_M M_X9_fail 1 := ⟨t_800, t_3, ⟨by decide +kernel, by decide +kernel⟩, by decide +kernel, by decide +kernel, by decide +kernel⟩
abbrev M_X11_kindOrFault : MRec := (yX11_kindOrFault, cX11_kindOrFault, 5, (some Jvm.ClassFile.FieldType.int), [])
theorem m_X11_kindOrFault : en_M M_X11_kindOrFault 4 := ⟨t_948, t_1, ⟨by decide +kernel, by decide +kernel⟩, by decide +kernel, by decide +kernel, by decide +kernel⟩
abbrev M_X12_words : MRec := (yX12_words, cX12_words, 3, (some Jvm.ClassFile.FieldType.boolean), [])
theorem m_X12_words : en_M M_X12_words 0 := ⟨t_2847, t_14, ⟨by decide +kernel, by decide +kernel⟩, by decide +kernel, by decide +kernel, by decide +kernel⟩
abbrev M_X12_beginShape : MRec := (yX12_beginShape, cX12_beginShape, 4, (some Jvm.ClassFile.FieldType.boolean), [])
theorem m_X12_beginShape : en_M M_X12_beginShape 0 := ⟨t_2855, t_14, ⟨by decide +kernel, by decide +kernel⟩, by decide +kernel, by decide +kernel, by decide +kernel⟩
abbrev M_X12_skip : MRec := (yX12_skip, cX12_skip, 1, none, [])
theorem m_X12_skip : en_M M_X12_skip 0 := ⟨t_2859, t_14, ⟨by decide +kernel, by decide +kernel⟩, by decide +kernel, by decide +kernel, by decide +kernel⟩
abbrev M_X12_here : MRec := (yX12_here, cX12_here, 1, (some Jvm.ClassFile.FieldType.int), [])
theorem m_X12_here : en_M M_X12_here 0 := ⟨t_2863, t_14, ⟨by decide +kernel, by decide +kernel⟩, by decide +kernel, by decide +kernel, by decide +kernel⟩
abbrev M_X12_isBlank : MRec := (yX12_isBlank, cX12_isBlank, 1, (some Jvm.ClassFile.FieldType.boolean), [])
theorem m_X12_isBlank : en_M M_X12_isBlank 1 := ⟨t_2866, t_14, ⟨by decide +kernel, by decide +kernel⟩, by decide +kernel, by decide +kernel, by decide +kernel⟩
abbrev M_X12_strange : MRec := (yX12_strange, cX12_strange, 4, (some Jvm.ClassFile.FieldType.boolean), [])
theorem m_X12_strange : en_M M_X12_strange 1 := ⟨t_2873, t_14, ⟨by decide +kernel, by decide +kernel⟩, by decide +kernel, by decide +kernel, by decide +kernel⟩
abbrev M_X12_wrong : MRec := (yX12_wrong, cX12_wrong, 3, (some Jvm.ClassFile.FieldType.boolean), [])
theorem m_X12_wrong : en_M M_X12_wrong 2 := ⟨t_2877, t_14, ⟨by decide +kernel, by decide +kernel⟩, by decide +kernel, by decide +kernel, by decide +kernel⟩
abbrev M_L_readBytes : MRec := (yL_readBytes, cL_readBytes, 4, (some Jvm.ClassFile.FieldType.int), [((0 : Nat), (9 : Nat), (12 : Nat), (24 : Nat)), ((0 : Nat), (9 : Nat), (15 : Nat), (19 : Nat))])
theorem m_L_readBytes : en_M M_L_readBytes 3 := ⟨t_956, t_0, ⟨by decide +kernel, by decide +kernel⟩, by decide +kernel, by decide +kernel, by decide +kernel⟩
abbrev M_X11_readBytes : MRec := (yX11_readBytes, cX11_readBytes, 5, (some Jvm.ClassFile.FieldType.int), [])
theorem m_X11_readBytes : en_M M_X11_readBytes 1 := ⟨t_960, t_1, ⟨by decide +kernel, by decide +kernel⟩, by decide +kernel, by decide +kernel, by decide +kernel⟩
abbrev M_X12_readBytes : MRec := (yX12_readBytes, cX12_readBytes, 2, (some Jvm.ClassFile.FieldType.int), [])
theorem m_X12_readBytes : en_M M_X12_readBytes 1 := ⟨t_3028, t_14, ⟨by decide +kernel, by decide +kernel⟩, by decide +kernel, by decide +kernel, by decide +kernel⟩
abbrev M_X0_readInto : MRec := (yX0_readInto, cX0_readInto, 6, (some Jvm.ClassFile.FieldType.boolean), [])
theorem m_X0_readInto : en_M M_X0_readInto 2 := ⟨t_964, t_4, ⟨by decide +kernel, by decide +kernel⟩, by decide +kernel, by decide +kernel, by decide +kernel⟩
abbrev M_X0_readShape : MRec := (yX0_readShape, cX0_readShape, 6, (some Jvm.ClassFile.FieldType.boolean), [])
theorem m_X0_readShape : en_M M_X0_readShape 1 := ⟨t_970, t_4, ⟨by decide +kernel, by decide +kernel⟩, by decide +kernel, by decide +kernel, by decide +kernel⟩
abbrev M_X0_has : MRec := (yX0_has, cX0_has, 2, (some Jvm.ClassFile.FieldType.boolean), [])
theorem m_X0_has : en_M M_X0_has 1 := ⟨t_974, t_4, ⟨by decide +kernel, by decide +kernel⟩, by decide +kernel, by decide +kernel, by decide +kernel⟩
abbrev M_X0_fail : MRec := (yX0_fail, cX0_fail, 2, (some Jvm.ClassFile.FieldType.boolean), [])
theorem m_X0_fail : en_M M_X0_fail 1 := ⟨t_978, t_4, ⟨by decide +kernel, by decide +kernel⟩, by decide +kernel, by decide +kernel, by decide +kernel⟩
abbrev M_X12_bytes : MRec := (yX12_bytes, cX12_bytes, 3, (some Jvm.ClassFile.FieldType.boolean), [])
theorem m_X12_bytes : en_M M_X12_bytes 0 := ⟨t_2969, t_14, ⟨by decide +kernel, by decide +kernel⟩, by decide +kernel, by decide +kernel, by decide +kernel⟩
abbrev M_X12_shapeOfBytes : MRec := (yX12_shapeOfBytes, cX12_shapeOfBytes, 11, (some Jvm.ClassFile.FieldType.boolean), [])
theorem m_X12_shapeOfBytes : en_M M_X12_shapeOfBytes 1 := ⟨t_2973, t_14, ⟨by decide +kernel, by decide +kernel⟩, by decide +kernel, by decide +kernel, by decide +kernel⟩
abbrev M_X12_there : MRec := (yX12_there, cX12_there, 2, (some Jvm.ClassFile.FieldType.boolean), [])
theorem m_X12_there : en_M M_X12_there 1 := ⟨t_2977, t_14, ⟨by decide +kernel, by decide +kernel⟩, by decide +kernel, by decide +kernel, by decide +kernel⟩
abbrev M_L_feed : MRec := (yL_feed, cL_feed, 8, (some Jvm.ClassFile.FieldType.int), [((0 : Nat), (16 : Nat), (19 : Nat), (13 : Nat))])
theorem m_L_feed : en_M M_L_feed 7 := ⟨t_636, t_0, ⟨by decide +kernel, by decide +kernel⟩, by decide +kernel, by decide +kernel, by decide +kernel⟩
abbrev M_X11_feed : MRec := (yX11_feed, cX11_feed, 6, (some Jvm.ClassFile.FieldType.int), [])
theorem m_X11_feed : en_M M_X11_feed 5 := ⟨t_641, t_1, ⟨by decide +kernel, by decide +kernel⟩, by decide +kernel, by decide +kernel, by decide +kernel⟩
abbrev M_X11_layOnTape : MRec := (yX11_layOnTape, cX11_layOnTape, 3, none, [])
theorem m_X11_layOnTape : en_M M_X11_layOnTape 1 := ⟨t_712, t_1, ⟨by decide +kernel, by decide +kernel⟩, by decide +kernel, by decide +kernel, by decide +kernel⟩
abbrev M_X12_feed : MRec := (yX12_feed, cX12_feed, 6, (some Jvm.ClassFile.FieldType.int), [])
theorem m_X12_feed : en_M M_X12_feed 5 := ⟨t_2804, t_14, ⟨by decide +kernel, by decide +kernel⟩, by decide +kernel, by decide +kernel, by decide +kernel⟩
abbrev M_X12_four : MRec := (yX12_four, cX12_four, 3, none, [])
theorem m_X12_four : en_M M_X12_four 1 := ⟨t_2812, t_14, ⟨by decide +kernel, by decide +kernel⟩, by decide +kernel, by decide +kernel, by decide +kernel⟩
set_option maxRecDepth 10000 in
theorem q3070 {l : Launch} {E : EE} (hl : l.stackTraces = false) {h : HP} {a0 : Int32} (c0 : a0.toInt < 0) (o3063 : ob h 32 = some (.inr (14, [.ref 33, .ref 162, .ref 166, .int (0 : Int32), .int (0 : Int32), .int (0 : Int32), .ref 167, .ref 170, .ref 173, .ref 177, .ref 193, .ref 208, .ref 222, .ref 238, .ref 252, .ref 274, .ref 275, .ref 276, .int (0 : Int32)]))) : en_C l E M_X11_readWords 7 1 6 [.ref 32, .int a0] h (pT "java/lang/IndexOutOfBoundsException" [32] h (fun _ => True)) := by
  refine en_mk m_X11_readWords rfl hl (Nat.le_of_ble_eq_true rfl) ?_
  refine x_aload_n (M := M_X11_readWords) dX11_readWords_0 rfl ?_
  refine x_getf (M := M_X11_readWords) (ci := 14) (C := RX11) (T := TX11) (N := 19) (ty := tyX11) cl14 dX11_readWords_1 o3063 3 (by decide) t_566 (v := .int (0 : Int32)) rfl ?_
  refine x_top (M := M_X11_readWords) (y := (Int32.ofInt 0)) (by decide +kernel) ?_
  refine x_istore_n (M := M_X11_readWords) dX11_readWords_4 (Nat.le_of_ble_eq_true rfl) rfl ?_
  refine x_aload_n (M := M_X11_readWords) dX11_readWords_5 rfl ?_
  refine x_iconst (M := M_X11_readWords) dX11_readWords_6 ?_
  refine y_put (M := M_X11_readWords) (ci := 14) (C := RX11) (T := TX11) (N := 19) (ty := tyX11) cl14 dX11_readWords_7 o3063 3 (by decide) t_566 (Or.inl rfl) (Nat.le_of_ble_eq_true rfl) rfl (fun h3064 (w3065 : ob h3064 32 = some (.inr (14, [.ref 33, .ref 162, .ref 166, .int (Int32.ofInt 0), .int (0 : Int32), .int (0 : Int32), .ref 167, .ref 170, .ref 173, .ref 177, .ref 193, .ref 208, .ref 222, .ref 238, .ref 252, .ref 274, .ref 275, .ref 276, .int (0 : Int32)]))) f3066 => ?_)
  refine x_aload_n (M := M_X11_readWords) dX11_readWords_10 rfl ?_
  refine x_iload_n (M := M_X11_readWords) dX11_readWords_11 rfl ?_
  exact y_callVX (M := M_X11_readWords) (M' := M_X11_slotNumbered) rfl rfl dX11_readWords_12 m_X11_slotNumbered t_744 t_746 s_2 (q392 hl c0) rfl rfl w3065 rfl (Nat.le_of_ble_eq_true rfl) (Nat.le_of_ble_eq_true rfl) (Nat.le_of_ble_eq_true rfl) (Nat.le_of_ble_eq_true rfl) (fun h3067 f3068 w3069 => ⟨rfl, (fr_tr f3068 (fun _ h => nomatch h) (fr_tr f3066 (by decide) fr_rf)), trivial⟩)
set_option maxRecDepth 10000 in
theorem q3075 {l : Launch} {E : EE} (hl : l.stackTraces = false) {h : HP} {a0 : Int32} (c0 : a0.toInt < 0) (o3071 : ob h 32 = some (.inr (14, [.ref 33, .ref 162, .ref 166, .int (0 : Int32), .int (0 : Int32), .int (0 : Int32), .ref 167, .ref 170, .ref 173, .ref 177, .ref 193, .ref 208, .ref 222, .ref 238, .ref 252, .ref 274, .ref 275, .ref 276, .int (0 : Int32)]))) : en_C l E M_L_readWords 8 1 6 [.ref 32, .int a0, .ref 359] h (pF (some (.int (Int32.ofInt 1))) [32] h (fun _ => True)) := by
  refine en_mkW m_L_readWords rfl hl (Nat.le_of_ble_eq_true rfl) ?_
  refine x_aload_n (M := M_L_readWords) dL_readWords_0 rfl ?_
  refine x_iconst (M := M_L_readWords) dL_readWords_1 ?_
  refine x_aload_n (M := M_L_readWords) dL_readWords_2 rfl ?_
  refine x_iload_n (M := M_L_readWords) dL_readWords_3 rfl ?_
  refine y_callVHX (M := M_L_readWords) (M' := M_X11_readWords) (i9 := 3) (nx := 13) rfl dL_readWords_4 m_X11_readWords t_740 t_741 t_742 o3071 rfl (q3070 hl c0 o3071) rfl rfl (Nat.le_of_ble_eq_true rfl) (Nat.le_of_ble_eq_true rfl) (Nat.le_of_ble_eq_true rfl) (Nat.le_of_ble_eq_true rfl) (en_hdn (k0 := 3) [] [(0, 9, 15, 19)] rfl (fun _ h => nomatch h) (by decide +kernel) (by decide) t_739 n_750 dL_readWords_12) (by decide) rfl (fun h3072 f3073 w3074 => ?_)
  refine x_iconst (M := M_L_readWords) dL_readWords_13 ?_
  exact x_iret (M := M_L_readWords) dL_readWords_14 rfl ⟨rfl, (fr_tr f3073 (by decide) fr_rf), trivial⟩ (Nat.le_of_ble_eq_true rfl) (Nat.le_of_ble_eq_true rfl)
set_option maxRecDepth 10000 in
theorem q3096 {l : Launch} {E : EE} (hl : l.stackTraces = false) {h : HP} {dg : Int32} (o3091 : ob h 277 = some (.inr (15, ((((RB dg).set 0 (.int (Int32.ofInt 0))).set 4 (.int (Int32.ofInt 0))).set 18 (.int (Int32.ofInt 0)))))) : en_C l E M_X12_fails 0 0 0 [.ref 277, .int (Int32.ofInt 1), .int (Int32.ofInt 1)] h (pF (some (.int (Int32.ofInt 1))) [277] h (fun h' => ob h' 277 = some (.inr (15, ((((RB dg).set 0 (.int (Int32.ofInt 1))).set 4 (.int (Int32.ofInt 0))).set 18 (.int (Int32.ofInt 0))))) ∧ True)) := by
  refine en_mk m_X12_fails rfl hl (Nat.le_of_ble_eq_true rfl) ?_
  refine x_aload_n (M := M_X12_fails) dX12_fails_0 rfl ?_
  refine x_iload_n (M := M_X12_fails) dX12_fails_1 rfl ?_
  refine x_if_eq (M := M_X12_fails) (tgt := 16) dX12_fails_2 (by decide) (fun q => absurd q (by decide +kernel)) (fun _ => ?_)
  refine x_aload_n (M := M_X12_fails) dX12_fails_5 rfl ?_
  refine x_getf (M := M_X12_fails) (ci := 15) (C := RX12) (T := TX12) (N := 135) (ty := tyX12) cl15 dX12_fails_6 o3091 0 (by decide) t_2391 (v := .int (Int32.ofInt 0)) rfl ?_
  refine x_if_ne (M := M_X12_fails) (tgt := 16) dX12_fails_9 (by decide) (fun q => absurd q (by decide +kernel)) (fun _ => ?_)
  refine x_iload_n (M := M_X12_fails) dX12_fails_12 rfl ?_
  refine x_goto (M := M_X12_fails) (tgt := 20) dX12_fails_13 (by decide) ?_
  refine y_put (M := M_X12_fails) (ci := 15) (C := RX12) (T := TX12) (N := 135) (ty := tyX12) cl15 dX12_fails_20 o3091 0 (by decide) t_2391 (Or.inl rfl) (Nat.le_of_ble_eq_true rfl) rfl (fun h3092 w3093 f3094 => ?_)
  have w3095 : ob h3092 277 = some (.inr (15, ((((RB dg).set 0 (.int (Int32.ofInt 1))).set 4 (.int (Int32.ofInt 0))).set 18 (.int (Int32.ofInt 0))))) := by rw [w3093, ls_sw (i := 18) (j := 0) (by decide), ls_sw (i := 4) (j := 0) (by decide), List.set_set]
  refine x_aload_n (M := M_X12_fails) dX12_fails_23 rfl ?_
  refine x_getf (M := M_X12_fails) (ci := 15) (C := RX12) (T := TX12) (N := 135) (ty := tyX12) cl15 dX12_fails_24 w3095 0 (by decide) t_2391 (v := .int (Int32.ofInt 1)) rfl ?_
  refine x_if_eq (M := M_X12_fails) (tgt := 34) dX12_fails_27 (by decide) (fun q => absurd q (by decide +kernel)) (fun _ => ?_)
  refine x_iconst (M := M_X12_fails) dX12_fails_30 ?_
  refine x_goto (M := M_X12_fails) (tgt := 35) dX12_fails_31 (by decide) ?_
  exact x_zret (M := M_X12_fails) dX12_fails_35 rfl (by decide) ⟨rfl, (fr_tr f3094 (by decide) fr_rf), ⟨w3095, trivial⟩⟩ (Nat.le_of_ble_eq_true rfl) (Nat.le_of_ble_eq_true rfl)
set_option maxRecDepth 10000 in
theorem q3101 {l : Launch} {E : EE} (hl : l.stackTraces = false) {h : HP} {a0 : Int32} {dg : Int32} (c0 : a0.toInt < 0) (o3080 : ob h 277 = some (.inr (15, (RB dg)))) : en_C l E M_X12_reads 1 0 0 [.ref 277, .int a0, .int (Int32.ofInt 1)] h (pF (some (.int (Int32.ofInt 0))) [277] h (fun h' => ob h' 277 = some (.inr (15, ((((RB dg).set 0 (.int (Int32.ofInt 1))).set 4 (.int (Int32.ofInt 0))).set 18 (.int (Int32.ofInt 0))))) ∧ True)) := by
  refine en_mk m_X12_reads rfl hl (Nat.le_of_ble_eq_true rfl) ?_
  refine x_aload_n (M := M_X12_reads) dX12_reads_0 rfl ?_
  refine x_iconst (M := M_X12_reads) dX12_reads_1 ?_
  refine y_put (M := M_X12_reads) (ci := 15) (C := RX12) (T := TX12) (N := 135) (ty := tyX12) cl15 dX12_reads_2 o3080 0 (by decide) t_2391 (Or.inl rfl) (Nat.le_of_ble_eq_true rfl) rfl (fun h3081 w3082 f3083 => ?_)
  refine x_aload_n (M := M_X12_reads) dX12_reads_5 rfl ?_
  refine x_aload_n (M := M_X12_reads) dX12_reads_6 rfl ?_
  refine x_getf (M := M_X12_reads) (ci := 15) (C := RX12) (T := TX12) (N := 135) (ty := tyX12) cl15 dX12_reads_7 w3082 4 (by decide) t_2395 (v := .int (0 : Int32)) rfl ?_
  refine x_top (M := M_X12_reads) (y := (Int32.ofInt 0)) (by decide +kernel) ?_
  refine y_put (M := M_X12_reads) (ci := 15) (C := RX12) (T := TX12) (N := 135) (ty := tyX12) cl15 dX12_reads_10 w3082 18 (by decide) t_2409 (Or.inl rfl) (Nat.le_of_ble_eq_true rfl) rfl (fun h3084 w3085 f3086 => ?_)
  refine x_aload_n (M := M_X12_reads) dX12_reads_13 rfl ?_
  refine x_iconst (M := M_X12_reads) dX12_reads_14 ?_
  refine y_put (M := M_X12_reads) (ci := 15) (C := RX12) (T := TX12) (N := 135) (ty := tyX12) cl15 dX12_reads_15 w3085 4 (by decide) t_2395 (Or.inl rfl) (Nat.le_of_ble_eq_true rfl) rfl (fun h3087 w3088 f3089 => ?_)
  have w3090 : ob h3087 277 = some (.inr (15, ((((RB dg).set 0 (.int (Int32.ofInt 0))).set 4 (.int (Int32.ofInt 0))).set 18 (.int (Int32.ofInt 0))))) := by rw [w3088, ls_sw (i := 18) (j := 4) (by decide)]
  refine x_aload_n (M := M_X12_reads) dX12_reads_18 rfl ?_
  refine x_iload_n (M := M_X12_reads) dX12_reads_19 rfl ?_
  refine x_callSR (M := M_X12_reads) (M' := M_X12_isSlot) rfl rfl dX12_reads_20 m_X12_isSlot t_2841 t_2842 (q411 hl c0) rfl rfl (Nat.le_of_ble_eq_true rfl) (Nat.le_of_ble_eq_true rfl) (Nat.le_of_ble_eq_true rfl) (Nat.le_of_ble_eq_true rfl) ?_
  refine x_if_ne (M := M_X12_reads) (tgt := 30) dX12_reads_23 (by decide) (fun q => absurd q (by decide +kernel)) (fun _ => ?_)
  refine x_iconst (M := M_X12_reads) dX12_reads_26 ?_
  refine x_goto (M := M_X12_reads) (tgt := 31) dX12_reads_27 (by decide) ?_
  refine x_iconst (M := M_X12_reads) dX12_reads_31 ?_
  refine y_callVR (M := M_X12_reads) (M' := M_X12_fails) rfl rfl dX12_reads_32 m_X12_fails t_2805 t_2807 s_157 (q3096 hl w3090) rfl rfl w3090 rfl (Nat.le_of_ble_eq_true rfl) (Nat.le_of_ble_eq_true rfl) (Nat.le_of_ble_eq_true rfl) (Nat.le_of_ble_eq_true rfl) (fun h3097 f3098 w3099 => ?_)
  obtain ⟨o3100, -⟩ := w3099
  refine x_if_eq (M := M_X12_reads) (tgt := 40) dX12_reads_35 (by decide) (fun q => absurd q (by decide +kernel)) (fun _ => ?_)
  refine x_iconst (M := M_X12_reads) dX12_reads_38 ?_
  exact x_iret (M := M_X12_reads) dX12_reads_39 rfl ⟨rfl, (fr_tr f3098 (by decide) (fr_tr f3089 (by decide) (fr_tr f3086 (by decide) (fr_tr f3083 (by decide) fr_rf)))), ⟨o3100, trivial⟩⟩ (Nat.le_of_ble_eq_true rfl) (Nat.le_of_ble_eq_true rfl)
set_option maxRecDepth 10000 in
theorem q3107 {l : Launch} {E : EE} (hl : l.stackTraces = false) {h : HP} {a0 : Int32} {dg : Int32} (c0 : a0.toInt < 0) (o3102 : ob h 277 = some (.inr (15, (RB dg)))) : en_C l E M_X12_readWords 2 0 0 [.ref 277, .int a0] h (pF (some (.int (Int32.ofInt 0))) [277] h (fun h' => ob h' 277 = some (.inr (15, ((((RB dg).set 0 (.int (Int32.ofInt 1))).set 4 (.int (Int32.ofInt 0))).set 18 (.int (Int32.ofInt 0))))) ∧ True)) := by
  refine en_mk m_X12_readWords rfl hl (Nat.le_of_ble_eq_true rfl) ?_
  refine x_aload_n (M := M_X12_readWords) dX12_readWords_0 rfl ?_
  refine x_iload_n (M := M_X12_readWords) dX12_readWords_1 rfl ?_
  refine x_iconst (M := M_X12_readWords) dX12_readWords_2 ?_
  refine y_callVR (M := M_X12_readWords) (M' := M_X12_reads) rfl rfl dX12_readWords_3 m_X12_reads t_2837 t_2839 s_159 (q3101 hl c0 o3102) rfl rfl o3102 rfl (Nat.le_of_ble_eq_true rfl) (Nat.le_of_ble_eq_true rfl) (Nat.le_of_ble_eq_true rfl) (Nat.le_of_ble_eq_true rfl) (fun h3103 f3104 w3105 => ?_)
  obtain ⟨o3106, -⟩ := w3105
  exact x_iret (M := M_X12_readWords) dX12_readWords_6 rfl ⟨rfl, (fr_tr f3104 (by decide) fr_rf), ⟨o3106, trivial⟩⟩ (Nat.le_of_ble_eq_true rfl) (Nat.le_of_ble_eq_true rfl)
set_option maxRecDepth 10000 in
theorem q3115 {l : Launch} {E : EE} (hl : l.stackTraces = false) {h : HP} {dg : Int32} (o3114 : ob h 277 = some (.inr (15, ((((RB dg).set 0 (.int (Int32.ofInt 1))).set 4 (.int (Int32.ofInt 0))).set 18 (.int (Int32.ofInt 0)))))) : en_C l E M_X12_thrown 0 0 0 [.ref 277] h (pR (some (.int (Int32.ofInt 1))) h) := by
  refine en_mk m_X12_thrown rfl hl (Nat.le_of_ble_eq_true rfl) ?_
  refine x_aload_n (M := M_X12_thrown) dX12_thrown_0 rfl ?_
  refine x_getf (M := M_X12_thrown) (ci := 15) (C := RX12) (T := TX12) (N := 135) (ty := tyX12) cl15 dX12_thrown_1 o3114 0 (by decide) t_2391 (v := .int (Int32.ofInt 1)) rfl ?_
  exact x_iret (M := M_X12_thrown) dX12_thrown_4 rfl ⟨rfl, rfl⟩ (Nat.le_of_ble_eq_true rfl) (Nat.le_of_ble_eq_true rfl)
set_option maxRecDepth 10000 in
theorem lc3_0 {l : Launch} {E : EE} (hl : l.stackTraces = false) (nm : String) {xs : Nat → Int32} (hx : E.2.2.2.2 0 = some (7, xs)) {h : HP} {a0 : Int32} {dg : Int32} (e2 : xs 2 = a0) (c0 : a0.toInt < 0) (o3076 : ob h 32 = some (.inr (14, [.ref 33, .ref 162, .ref 166, .int (0 : Int32), .int (0 : Int32), .int (0 : Int32), .ref 167, .ref 170, .ref 173, .ref 177, .ref 193, .ref 208, .ref 222, .ref 238, .ref 252, .ref 274, .ref 275, .ref 276, .int (0 : Int32)]))) (o3108 : ob h 277 = some (.inr (15, (RB dg)))) : XX l E (M_law nm) 1312 342628 8074320 (fun o _ => o = .inl (some (.int 1))) 365 [some (.ref 0), some (.ref 32), some (.ref 277), some (.ref 359), some (.int (Int32.ofInt 1)), none, none, none] [] h 328 2463747 := by
  refine x_aload_n (M := (M_law nm)) dL_law_365 rfl ?_
  refine x_aload_n (M := (M_law nm)) dL_law_366 rfl ?_
  refine x_iload (M := (M_law nm)) dL_law_367 rfl ?_
  refine x_iconst (M := (M_law nm)) dL_law_369 ?_
  refine x_iadd (M := (M_law nm)) dL_law_370 ?_
  refine x_sald (M := (M_law nm)) dL_law_371 (by decide) hx (vp_inD (by decide +kernel)) ?_
  refine x_top (M := (M_law nm)) (y := a0) ((congrArg xs (by decide +kernel : ((Int32.ofInt 1) + (Int32.ofInt 1)).toNatClampNeg = 2)).trans e2) ?_
  refine x_aload_n (M := (M_law nm)) dL_law_372 rfl ?_
  refine y_callSW (M := (M_law nm)) (M' := M_L_readWords) rfl rfl dL_law_373 m_L_readWords t_736 t_737 (q3075 hl c0 o3076) rfl rfl (Nat.le_of_ble_eq_true rfl) (Nat.le_of_ble_eq_true rfl) (Nat.le_of_ble_eq_true rfl) (Nat.le_of_ble_eq_true rfl) (fun h3077 f3078 w3079 => ?_)
  refine x_istore (M := (M_law nm)) dL_law_376 (Nat.le_of_ble_eq_true rfl) rfl ?_
  refine x_aload_n (M := (M_law nm)) dL_law_378 rfl ?_
  refine x_aload_n (M := (M_law nm)) dL_law_379 rfl ?_
  refine x_iload (M := (M_law nm)) dL_law_380 rfl ?_
  refine x_iconst (M := (M_law nm)) dL_law_382 ?_
  refine x_iadd (M := (M_law nm)) dL_law_383 ?_
  refine x_sald (M := (M_law nm)) dL_law_384 (by decide) hx (vp_inD (by decide +kernel)) ?_
  refine x_top (M := (M_law nm)) (y := a0) ((congrArg xs (by decide +kernel : ((Int32.ofInt 1) + (Int32.ofInt 1)).toNatClampNeg = 2)).trans e2) ?_
  have o3109 := (f3078 277 _ (by decide) o3108)
  refine y_callVR (M := (M_law nm)) (M' := M_X12_readWords) rfl rfl dL_law_385 m_X12_readWords t_2833 t_2834 t_2835 (q3107 hl c0 o3109) rfl rfl o3109 rfl (Nat.le_of_ble_eq_true rfl) (Nat.le_of_ble_eq_true rfl) (Nat.le_of_ble_eq_true rfl) (Nat.le_of_ble_eq_true rfl) (fun h3110 f3111 w3112 => ?_)
  obtain ⟨o3113, -⟩ := w3112
  refine x_istore (M := (M_law nm)) dL_law_388 (Nat.le_of_ble_eq_true rfl) rfl ?_
  refine x_aload_n (M := (M_law nm)) dL_law_390 rfl ?_
  refine x_callVR (M := (M_law nm)) (M' := M_X12_thrown) rfl rfl dL_law_391 m_X12_thrown t_2797 t_2798 t_2799 (q3115 hl o3113) rfl rfl o3113 rfl (Nat.le_of_ble_eq_true rfl) (Nat.le_of_ble_eq_true rfl) (Nat.le_of_ble_eq_true rfl) (Nat.le_of_ble_eq_true rfl) ?_
  refine x_iload (M := (M_law nm)) dL_law_394 rfl ?_
  refine x_icmp_eq (M := (M_law nm)) (tgt := 401) dL_law_396 (by decide) (fun _ => ?_) (fun q => absurd q (by decide +kernel))
  refine x_iload (M := (M_law nm)) dL_law_401 rfl ?_
  refine x_if_ne (M := (M_law nm)) (tgt := 418) dL_law_403 (by decide) (fun _ => ?_) (fun q => absurd q (by decide +kernel))
  refine x_goto (M := (M_law nm)) (tgt := 2449) dL_law_418 (by decide) ?_
  refine x_iinc (M := (M_law nm)) dL_law_2449 rfl (Nat.le_of_ble_eq_true rfl) rfl ?_
  refine x_lvs (M := (M_law nm)) (lv' := [some (.ref 0), some (.ref 32), some (.ref 277), some (.ref 359), some (.int (Int32.ofInt 7)), some (.int (Int32.ofInt 1)), some (.int (Int32.ofInt 0)), none]) (by rw [(by decide +kernel : (Int32.ofInt 1) + Int32.ofInt 6 = (Int32.ofInt 7))] <;> rfl) ?_
  refine x_goto (M := (M_law nm)) (tgt := 33) dL_law_2452 (by decide) ?_
  refine x_iload (M := (M_law nm)) dL_law_33 rfl ?_
  refine x_aload_n (M := (M_law nm)) dL_law_35 rfl ?_
  refine x_slen (M := (M_law nm)) dL_law_36 (by decide) hx ?_
  refine x_bipush (M := (M_law nm)) dL_law_37 ?_
  refine x_isub (M := (M_law nm)) dL_law_39 ?_
  refine x_icmp_gt (M := (M_law nm)) (tgt := 2455) dL_law_40 (by decide) (fun _ => ?_) (fun q => absurd q (by decide +kernel))
  refine x_iconst (M := (M_law nm)) dL_law_2455 ?_
  exact x_zret (M := (M_law nm)) dL_law_2456 rfl (by decide) rfl (Nat.le_of_ble_eq_true rfl) (Nat.le_of_ble_eq_true rfl)
set_option maxRecDepth 10000 in
theorem q3126 {l : Launch} {E : EE} (hl : l.stackTraces = false) {h : HP} {a0 : Int32} (c0 : ¬ (a0.toInt < 0)) (c1 : a0.toInt < 32) (o3124 : ob h 32 = some (.inr (14, [.ref 33, .ref 162, .ref 166, .int (Int32.ofInt 0), .int (0 : Int32), .int (0 : Int32), .ref 167, .ref 170, .ref 173, .ref 177, .ref 193, .ref 208, .ref 222, .ref 238, .ref 252, .ref 274, .ref 275, .ref 276, .int (0 : Int32)]))) (o3125 : ob h 33 = some (.inl (4, 32, .inr (.inr (.inr (.inr (shf 1 32))))))) : en_C l E M_X11_slotNumbered 0 0 0 [.ref 32, .int a0] h (pR (some (.ref (34 + 4 * a0.toNatClampNeg))) h) := by
  have n_a0 : a0.toNatClampNeg < 32 := nc_lt (by omega) (by decide)
  refine en_mk m_X11_slotNumbered rfl hl (Nat.le_of_ble_eq_true rfl) ?_
  refine x_iload_n (M := M_X11_slotNumbered) dX11_slotNumbered_0 rfl ?_
  refine x_if_lt (M := M_X11_slotNumbered) (tgt := 10) dX11_slotNumbered_1 (by decide) (fun q => absurd ((bi_lt rfl (by decide +kernel)).mp q) (by omega : ¬ (a0.toInt < 0))) (fun _ => ?_)
  refine x_iload_n (M := M_X11_slotNumbered) dX11_slotNumbered_4 rfl ?_
  refine x_bipush (M := M_X11_slotNumbered) dX11_slotNumbered_5 ?_
  refine x_icmp_lt (M := M_X11_slotNumbered) (tgt := 18) dX11_slotNumbered_7 (by decide) (fun _ => ?_) (fun q => absurd ((bi_lt rfl (by decide +kernel)).mpr (by omega : (a0.toInt < 32 : Prop))) q)
  refine x_aload_n (M := M_X11_slotNumbered) dX11_slotNumbered_18 rfl ?_
  refine x_getf (M := M_X11_slotNumbered) (ci := 14) (C := RX11) (T := TX11) (N := 19) (ty := tyX11) cl14 dX11_slotNumbered_19 o3124 0 (by decide) t_563 (v := .ref 33) rfl ?_
  refine x_iload_n (M := M_X11_slotNumbered) dX11_slotNumbered_22 rfl ?_
  refine x_aald (M := M_X11_slotNumbered) (b := 34 + 4 * a0.toNatClampNeg) dX11_slotNumbered_23 o3125 (vp_in_s (by omega) (by omega)) (shf_at n_a0) ?_
  exact x_aret (M := M_X11_slotNumbered) dX11_slotNumbered_24 rfl ⟨rfl, rfl⟩ (Nat.le_of_ble_eq_true rfl) (Nat.le_of_ble_eq_true rfl)
set_option maxRecDepth 10000 in
theorem q3161 {l : Launch} {E : EE} (hl : l.stackTraces = false) {h : HP} {a0 : Int32} {dg : Int32} (c0 : ¬ (a0.toInt < 0)) (c1 : a0.toInt < 32) (o3160 : ob h 167 = some (.inr (12, [.int (dg &&& Int32.ofInt 3), .ref 166, .ref 168, .ref 169, .ref (34 + 4 * a0.toNatClampNeg), .int (Int32.ofInt 0), .int (Int32.ofInt 0), .int (Int32.ofInt 0), .int (Int32.ofInt 0), .int (0 : Int32), .int (Int32.ofInt 0), .int (Int32.ofInt 0)]))) : en_C l E M_X9_skipBlanks 0 0 0 [.ref 167] h (pR none h) := by
  refine en_mk m_X9_skipBlanks rfl hl (Nat.le_of_ble_eq_true rfl) ?_
  refine x_aload_n (M := M_X9_skipBlanks) dX9_skipBlanks_0 rfl ?_
  refine x_getf (M := M_X9_skipBlanks) (ci := 12) (C := RX9) (T := TX9) (N := 12) (ty := tyX9) cl12 dX9_skipBlanks_1 o3160 6 (by decide) t_111 (v := .int (Int32.ofInt 0)) rfl ?_
  refine x_aload_n (M := M_X9_skipBlanks) dX9_skipBlanks_4 rfl ?_
  refine x_getf (M := M_X9_skipBlanks) (ci := 12) (C := RX9) (T := TX9) (N := 12) (ty := tyX9) cl12 dX9_skipBlanks_5 o3160 5 (by decide) t_110 (v := .int (Int32.ofInt 0)) rfl ?_
  refine x_icmp_ge (M := M_X9_skipBlanks) (tgt := 39) dX9_skipBlanks_8 (by decide) (fun _ => ?_) (fun q => absurd q (by decide +kernel))
  exact x_vret (M := M_X9_skipBlanks) dX9_skipBlanks_39 rfl ⟨rfl, rfl⟩ (Nat.le_of_ble_eq_true rfl) (Nat.le_of_ble_eq_true rfl)
set_option maxRecDepth 10000 in
theorem q3164 {l : Launch} {E : EE} (hl : l.stackTraces = false) {h : HP} {a0 : Int32} {dg : Int32} (c0 : ¬ (a0.toInt < 0)) (c1 : a0.toInt < 32) (o3163 : ob h 167 = some (.inr (12, [.int (dg &&& Int32.ofInt 3), .ref 166, .ref 168, .ref 169, .ref (34 + 4 * a0.toNatClampNeg), .int (Int32.ofInt 0), .int (Int32.ofInt 0), .int (Int32.ofInt 0), .int (Int32.ofInt 0), .int (0 : Int32), .int (Int32.ofInt 0), .int (Int32.ofInt 0)]))) : en_C l E M_X9_signAt 0 0 0 [.ref 167, .int (Int32.ofInt 0)] h (pR (some (.int (Int32.ofInt (-1)))) h) := by
  refine en_mk m_X9_signAt rfl hl (Nat.le_of_ble_eq_true rfl) ?_
  refine x_iload_n (M := M_X9_signAt) dX9_signAt_0 rfl ?_
  refine x_if_lt (M := M_X9_signAt) (tgt := 25) dX9_signAt_1 (by decide) (fun q => absurd q (by decide +kernel)) (fun _ => ?_)
  refine x_iload_n (M := M_X9_signAt) dX9_signAt_4 rfl ?_
  refine x_aload_n (M := M_X9_signAt) dX9_signAt_5 rfl ?_
  refine x_getf (M := M_X9_signAt) (ci := 12) (C := RX9) (T := TX9) (N := 12) (ty := tyX9) cl12 dX9_signAt_6 o3163 5 (by decide) t_110 (v := .int (Int32.ofInt 0)) rfl ?_
  refine x_icmp_ge (M := M_X9_signAt) (tgt := 25) dX9_signAt_9 (by decide) (fun _ => ?_) (fun q => absurd q (by decide +kernel))
  refine x_iconst (M := M_X9_signAt) dX9_signAt_25 ?_
  exact x_iret (M := M_X9_signAt) dX9_signAt_26 rfl ⟨rfl, rfl⟩ (Nat.le_of_ble_eq_true rfl) (Nat.le_of_ble_eq_true rfl)
set_option maxRecDepth 10000 in
theorem q3165 {l : Launch} {E : EE} (hl : l.stackTraces = false) {h : HP} : en_C l E M_X9_isLetter 0 0 0 [.int (Int32.ofInt (-1))] h (pR (some (.int (Int32.ofInt 0))) h) := by
  refine en_mk m_X9_isLetter rfl hl (Nat.le_of_ble_eq_true rfl) ?_
  refine x_iload_n (M := M_X9_isLetter) dX9_isLetter_0 rfl ?_
  refine x_bipush (M := M_X9_isLetter) dX9_isLetter_1 ?_
  refine x_icmp_lt (M := M_X9_isLetter) (tgt := 12) dX9_isLetter_3 (by decide) (fun _ => ?_) (fun q => absurd q (by decide +kernel))
  refine x_iload_n (M := M_X9_isLetter) dX9_isLetter_12 rfl ?_
  refine x_bipush (M := M_X9_isLetter) dX9_isLetter_13 ?_
  refine x_icmp_lt (M := M_X9_isLetter) (tgt := 28) dX9_isLetter_15 (by decide) (fun _ => ?_) (fun q => absurd q (by decide +kernel))
  refine x_iconst (M := M_X9_isLetter) dX9_isLetter_28 ?_
  exact x_zret (M := M_X9_isLetter) dX9_isLetter_29 rfl (by decide) ⟨rfl, rfl⟩ (Nat.le_of_ble_eq_true rfl) (Nat.le_of_ble_eq_true rfl)
set_option maxRecDepth 10000 in
theorem q3174 {l : Launch} {E : EE} (hl : l.stackTraces = false) {h : HP} {a0 : Int32} {dg : Int32} (c0 : ¬ (a0.toInt < 0)) (c1 : a0.toInt < 32) (o3167 : ob h 167 = some (.inr (12, [.int (dg &&& Int32.ofInt 3), .ref 166, .ref 168, .ref 169, .ref (34 + 4 * a0.toNatClampNeg), .int (Int32.ofInt 0), .int (Int32.ofInt 0), .int (Int32.ofInt 0), .int (Int32.ofInt 0), .int (0 : Int32), .int (Int32.ofInt 0), .int (Int32.ofInt 0)]))) : en_C l E M_X9_fail 0 0 0 [.ref 167, .int (Int32.ofInt 3)] h (pF (some (.int (Int32.ofInt 0))) [167] h (fun h' => ob h' 167 = some (.inr (12, [.int (dg &&& Int32.ofInt 3), .ref 166, .ref 168, .ref 169, .ref (34 + 4 * a0.toNatClampNeg), .int (Int32.ofInt 0), .int (Int32.ofInt 0), .int (Int32.ofInt 0), .int (Int32.ofInt 0), .int (0 : Int32), .int (Int32.ofInt 3), .int (Int32.ofInt 0)])) ∧ True)) := by
  refine en_mk m_X9_fail rfl hl (Nat.le_of_ble_eq_true rfl) ?_
  refine x_aload_n (M := M_X9_fail) dX9_fail_0 rfl ?_
  refine x_iload_n (M := M_X9_fail) dX9_fail_1 rfl ?_
  refine y_put (M := M_X9_fail) (ci := 12) (C := RX9) (T := TX9) (N := 12) (ty := tyX9) cl12 dX9_fail_2 o3167 10 (by decide) t_115 (Or.inl rfl) (Nat.le_of_ble_eq_true rfl) rfl (fun h3168 (w3169 : ob h3168 167 = some (.inr (12, [.int (dg &&& Int32.ofInt 3), .ref 166, .ref 168, .ref 169, .ref (34 + 4 * a0.toNatClampNeg), .int (Int32.ofInt 0), .int (Int32.ofInt 0), .int (Int32.ofInt 0), .int (Int32.ofInt 0), .int (0 : Int32), .int (Int32.ofInt 3), .int (Int32.ofInt 0)]))) f3170 => ?_)
  refine x_aload_n (M := M_X9_fail) dX9_fail_5 rfl ?_
  refine x_aload_n (M := M_X9_fail) dX9_fail_6 rfl ?_
  refine x_getf (M := M_X9_fail) (ci := 12) (C := RX9) (T := TX9) (N := 12) (ty := tyX9) cl12 dX9_fail_7 w3169 6 (by decide) t_111 (v := .int (Int32.ofInt 0)) rfl ?_
  refine y_put (M := M_X9_fail) (ci := 12) (C := RX9) (T := TX9) (N := 12) (ty := tyX9) cl12 dX9_fail_10 w3169 11 (by decide) t_117 (Or.inl rfl) (Nat.le_of_ble_eq_true rfl) rfl (fun h3171 (w3172 : ob h3171 167 = some (.inr (12, [.int (dg &&& Int32.ofInt 3), .ref 166, .ref 168, .ref 169, .ref (34 + 4 * a0.toNatClampNeg), .int (Int32.ofInt 0), .int (Int32.ofInt 0), .int (Int32.ofInt 0), .int (Int32.ofInt 0), .int (0 : Int32), .int (Int32.ofInt 3), .int (Int32.ofInt 0)]))) f3173 => ?_)
  refine x_iconst (M := M_X9_fail) dX9_fail_13 ?_
  exact x_zret (M := M_X9_fail) dX9_fail_14 rfl (by decide) ⟨rfl, (fr_tr f3173 (by decide) (fr_tr f3170 (by decide) fr_rf)), ⟨w3172, trivial⟩⟩ (Nat.le_of_ble_eq_true rfl) (Nat.le_of_ble_eq_true rfl)
set_option maxRecDepth 10000 in
theorem q3179 {l : Launch} {E : EE} (hl : l.stackTraces = false) {h : HP} {a0 : Int32} {dg : Int32} (c0 : ¬ (a0.toInt < 0)) (c1 : a0.toInt < 32) (o3166 : ob h 167 = some (.inr (12, [.int (dg &&& Int32.ofInt 3), .ref 166, .ref 168, .ref 169, .ref (34 + 4 * a0.toNatClampNeg), .int (Int32.ofInt 0), .int (Int32.ofInt 0), .int (Int32.ofInt 0), .int (Int32.ofInt 0), .int (0 : Int32), .int (Int32.ofInt 0), .int (Int32.ofInt 0)]))) : en_C l E M_X9_unexpected 1 0 0 [.ref 167] h (pF (some (.int (Int32.ofInt 0))) [167] h (fun h' => ob h' 167 = some (.inr (12, [.int (dg &&& Int32.ofInt 3), .ref 166, .ref 168, .ref 169, .ref (34 + 4 * a0.toNatClampNeg), .int (Int32.ofInt 0), .int (Int32.ofInt 0), .int (Int32.ofInt 0), .int (Int32.ofInt 0), .int (0 : Int32), .int (Int32.ofInt 3), .int (Int32.ofInt 0)])) ∧ True)) := by
  refine en_mk m_X9_unexpected rfl hl (Nat.le_of_ble_eq_true rfl) ?_
  refine x_aload_n (M := M_X9_unexpected) dX9_unexpected_0 rfl ?_
  refine x_aload_n (M := M_X9_unexpected) dX9_unexpected_1 rfl ?_
  refine x_getf (M := M_X9_unexpected) (ci := 12) (C := RX9) (T := TX9) (N := 12) (ty := tyX9) cl12 dX9_unexpected_2 o3166 6 (by decide) t_111 (v := .int (Int32.ofInt 0)) rfl ?_
  refine x_callVR (M := M_X9_unexpected) (M' := M_X9_signAt) rfl rfl dX9_unexpected_5 m_X9_signAt t_783 t_785 s_5 (q3164 hl c0 c1 o3166) rfl rfl o3166 rfl (Nat.le_of_ble_eq_true rfl) (Nat.le_of_ble_eq_true rfl) (Nat.le_of_ble_eq_true rfl) (Nat.le_of_ble_eq_true rfl) ?_
  refine x_istore_n (M := M_X9_unexpected) dX9_unexpected_8 (Nat.le_of_ble_eq_true rfl) rfl ?_
  refine x_iload_n (M := M_X9_unexpected) dX9_unexpected_9 rfl ?_
  refine x_if_lt (M := M_X9_unexpected) (tgt := 45) dX9_unexpected_10 (by decide) (fun _ => ?_) (fun q => absurd q (by decide +kernel))
  refine x_iconst (M := M_X9_unexpected) dX9_unexpected_45 ?_
  refine x_goto (M := M_X9_unexpected) (tgt := 50) dX9_unexpected_46 (by decide) ?_
  refine x_istore_n (M := M_X9_unexpected) dX9_unexpected_50 (Nat.le_of_ble_eq_true rfl) rfl ?_
  refine x_aload_n (M := M_X9_unexpected) dX9_unexpected_51 rfl ?_
  refine x_iload_n (M := M_X9_unexpected) dX9_unexpected_52 rfl ?_
  refine x_if_eq (M := M_X9_unexpected) (tgt := 60) dX9_unexpected_53 (by decide) (fun q => absurd q (by decide +kernel)) (fun _ => ?_)
  refine x_iconst (M := M_X9_unexpected) dX9_unexpected_56 ?_
  refine x_goto (M := M_X9_unexpected) (tgt := 61) dX9_unexpected_57 (by decide) ?_
  refine y_callVR (M := M_X9_unexpected) (M' := M_X9_fail) rfl rfl dX9_unexpected_61 m_X9_fail t_797 t_799 s_7 (q3174 hl c0 c1 o3166) rfl rfl o3166 rfl (Nat.le_of_ble_eq_true rfl) (Nat.le_of_ble_eq_true rfl) (Nat.le_of_ble_eq_true rfl) (Nat.le_of_ble_eq_true rfl) (fun h3175 f3176 w3177 => ?_)
  obtain ⟨o3178, -⟩ := w3177
  exact x_zret (M := M_X9_unexpected) dX9_unexpected_64 rfl (by decide) ⟨rfl, (fr_tr f3176 (by decide) fr_rf), ⟨o3178, trivial⟩⟩ (Nat.le_of_ble_eq_true rfl) (Nat.le_of_ble_eq_true rfl)
set_option maxRecDepth 10000 in
theorem q3184 {l : Launch} {E : EE} (hl : l.stackTraces = false) {h : HP} {a0 : Int32} {dg : Int32} (c0 : ¬ (a0.toInt < 0)) (c1 : a0.toInt < 32) (o3162 : ob h 167 = some (.inr (12, [.int (dg &&& Int32.ofInt 3), .ref 166, .ref 168, .ref 169, .ref (34 + 4 * a0.toNatClampNeg), .int (Int32.ofInt 0), .int (Int32.ofInt 0), .int (Int32.ofInt 0), .int (Int32.ofInt 0), .int (0 : Int32), .int (Int32.ofInt 0), .int (Int32.ofInt 0)]))) : en_C l E M_X9_readShape 2 0 0 [.ref 167] h (pF (some (.int (Int32.ofInt 0))) [167] h (fun h' => ob h' 167 = some (.inr (12, [.int (dg &&& Int32.ofInt 3), .ref 166, .ref 168, .ref 169, .ref (34 + 4 * a0.toNatClampNeg), .int (Int32.ofInt 0), .int (Int32.ofInt 0), .int (Int32.ofInt 0), .int (Int32.ofInt 0), .int (0 : Int32), .int (Int32.ofInt 3), .int (Int32.ofInt 0)])) ∧ True)) := by
  refine en_mk m_X9_readShape rfl hl (Nat.le_of_ble_eq_true rfl) ?_
  refine x_aload_n (M := M_X9_readShape) dX9_readShape_0 rfl ?_
  refine x_callVR (M := M_X9_readShape) (M' := M_X9_skipBlanks) rfl rfl dX9_readShape_1 m_X9_skipBlanks t_776 t_778 s_4 (q3161 hl c0 c1 o3162) rfl rfl o3162 rfl (Nat.le_of_ble_eq_true rfl) (Nat.le_of_ble_eq_true rfl) (Nat.le_of_ble_eq_true rfl) (Nat.le_of_ble_eq_true rfl) ?_
  refine x_aload_n (M := M_X9_readShape) dX9_readShape_4 rfl ?_
  refine x_aload_n (M := M_X9_readShape) dX9_readShape_5 rfl ?_
  refine x_getf (M := M_X9_readShape) (ci := 12) (C := RX9) (T := TX9) (N := 12) (ty := tyX9) cl12 dX9_readShape_6 o3162 6 (by decide) t_111 (v := .int (Int32.ofInt 0)) rfl ?_
  refine x_callVR (M := M_X9_readShape) (M' := M_X9_signAt) rfl rfl dX9_readShape_9 m_X9_signAt t_783 t_785 s_5 (q3164 hl c0 c1 o3162) rfl rfl o3162 rfl (Nat.le_of_ble_eq_true rfl) (Nat.le_of_ble_eq_true rfl) (Nat.le_of_ble_eq_true rfl) (Nat.le_of_ble_eq_true rfl) ?_
  refine x_callSR (M := M_X9_readShape) (M' := M_X9_isLetter) rfl rfl dX9_readShape_12 m_X9_isLetter t_787 t_788 (q3165 hl) rfl rfl (Nat.le_of_ble_eq_true rfl) (Nat.le_of_ble_eq_true rfl) (Nat.le_of_ble_eq_true rfl) (Nat.le_of_ble_eq_true rfl) ?_
  refine x_if_ne (M := M_X9_readShape) (tgt := 23) dX9_readShape_15 (by decide) (fun q => absurd q (by decide +kernel)) (fun _ => ?_)
  refine x_aload_n (M := M_X9_readShape) dX9_readShape_18 rfl ?_
  refine y_callVR (M := M_X9_readShape) (M' := M_X9_unexpected) rfl rfl dX9_readShape_19 m_X9_unexpected t_790 t_792 s_6 (q3179 hl c0 c1 o3162) rfl rfl o3162 rfl (Nat.le_of_ble_eq_true rfl) (Nat.le_of_ble_eq_true rfl) (Nat.le_of_ble_eq_true rfl) (Nat.le_of_ble_eq_true rfl) (fun h3180 f3181 w3182 => ?_)
  obtain ⟨o3183, -⟩ := w3182
  exact x_zret (M := M_X9_readShape) dX9_readShape_22 rfl (by decide) ⟨rfl, (fr_tr f3181 (by decide) fr_rf), ⟨o3183, trivial⟩⟩ (Nat.le_of_ble_eq_true rfl) (Nat.le_of_ble_eq_true rfl)
set_option maxRecDepth 10000 in
theorem q3190 {l : Launch} {E : EE} (hl : l.stackTraces = false) {h : HP} {a0 : Int32} {dg : Int32} (c0 : ¬ (a0.toInt < 0)) (c1 : a0.toInt < 32) (o3189 : ob h 167 = some (.inr (12, [.int (dg &&& Int32.ofInt 3), .ref 166, .ref 168, .ref 169, .ref (34 + 4 * a0.toNatClampNeg), .int (Int32.ofInt 0), .int (Int32.ofInt 0), .int (Int32.ofInt 0), .int (Int32.ofInt 0), .int (0 : Int32), .int (Int32.ofInt 3), .int (Int32.ofInt 0)]))) : en_C l E M_X9_skipBlanks 0 0 0 [.ref 167] h (pR none h) := by
  refine en_mk m_X9_skipBlanks rfl hl (Nat.le_of_ble_eq_true rfl) ?_
  refine x_aload_n (M := M_X9_skipBlanks) dX9_skipBlanks_0 rfl ?_
  refine x_getf (M := M_X9_skipBlanks) (ci := 12) (C := RX9) (T := TX9) (N := 12) (ty := tyX9) cl12 dX9_skipBlanks_1 o3189 6 (by decide) t_111 (v := .int (Int32.ofInt 0)) rfl ?_
  refine x_aload_n (M := M_X9_skipBlanks) dX9_skipBlanks_4 rfl ?_
  refine x_getf (M := M_X9_skipBlanks) (ci := 12) (C := RX9) (T := TX9) (N := 12) (ty := tyX9) cl12 dX9_skipBlanks_5 o3189 5 (by decide) t_110 (v := .int (Int32.ofInt 0)) rfl ?_
  refine x_icmp_ge (M := M_X9_skipBlanks) (tgt := 39) dX9_skipBlanks_8 (by decide) (fun _ => ?_) (fun q => absurd q (by decide +kernel))
  exact x_vret (M := M_X9_skipBlanks) dX9_skipBlanks_39 rfl ⟨rfl, rfl⟩ (Nat.le_of_ble_eq_true rfl) (Nat.le_of_ble_eq_true rfl)
set_option maxRecDepth 10000 in
theorem q3192 {l : Launch} {E : EE} (hl : l.stackTraces = false) {h : HP} {a0 : Int32} {dg : Int32} (c0 : ¬ (a0.toInt < 0)) (c1 : a0.toInt < 32) (o3129 : ob h 167 = some (.inr (12, [.int (dg &&& Int32.ofInt 3), .ref 166, .ref 168, .ref 169, .ref 162, .int (0 : Int32), .int (0 : Int32), .int (0 : Int32), .int (0 : Int32), .int (0 : Int32), .int (0 : Int32), .int (0 : Int32)]))) (o3133 : ob h (34 + 4 * a0.toNatClampNeg) = some (.inr (9, [.ref (35 + 4 * a0.toNatClampNeg), .ref (36 + 4 * a0.toNatClampNeg), .ref (37 + 4 * a0.toNatClampNeg), .int (0 : Int32), .int (0 : Int32)]))) (o3140 : ob h 166 = some (.inl (2, 65536, .inl (fun _ => 0)))) : en_C l E M_X9_readInto 3 0 0 [.ref 167, .ref (34 + 4 * a0.toNatClampNeg), .int (Int32.ofInt 0)] h (pF (some (.int (Int32.ofInt 0))) [167, (34 + 4 * a0.toNatClampNeg)] h (fun h' => ob h' 167 = some (.inr (12, [.int (dg &&& Int32.ofInt 3), .ref 166, .ref 168, .ref 169, .ref (34 + 4 * a0.toNatClampNeg), .int (Int32.ofInt 0), .int (Int32.ofInt 0), .int (Int32.ofInt 0), .int (Int32.ofInt 0), .int (0 : Int32), .int (Int32.ofInt 3), .int (Int32.ofInt 0)])) ∧ ob h' (34 + 4 * a0.toNatClampNeg) = some (.inr (9, [.ref (35 + 4 * a0.toNatClampNeg), .ref (36 + 4 * a0.toNatClampNeg), .ref (37 + 4 * a0.toNatClampNeg), .int (Int32.ofInt 0), .int (Int32.ofInt 0)])) ∧ True)) := by
  have n_a0 : a0.toNatClampNeg < 32 := nc_lt (by omega) (by decide)
  refine en_mk m_X9_readInto rfl hl (Nat.le_of_ble_eq_true rfl) ?_
  refine x_aload_n (M := M_X9_readInto) dX9_readInto_0 rfl ?_
  refine x_aload_n (M := M_X9_readInto) dX9_readInto_1 rfl ?_
  refine y_put (M := M_X9_readInto) (ci := 12) (C := RX9) (T := TX9) (N := 12) (ty := tyX9) cl12 dX9_readInto_2 o3129 4 (by decide) t_109 (Or.inl rfl) (Nat.le_of_ble_eq_true rfl) rfl (fun h3130 (w3131 : ob h3130 167 = some (.inr (12, [.int (dg &&& Int32.ofInt 3), .ref 166, .ref 168, .ref 169, .ref (34 + 4 * a0.toNatClampNeg), .int (0 : Int32), .int (0 : Int32), .int (0 : Int32), .int (0 : Int32), .int (0 : Int32), .int (0 : Int32), .int (0 : Int32)]))) f3132 => ?_)
  refine x_aload_n (M := M_X9_readInto) dX9_readInto_5 rfl ?_
  refine x_getf (M := M_X9_readInto) (ci := 12) (C := RX9) (T := TX9) (N := 12) (ty := tyX9) cl12 dX9_readInto_6 w3131 4 (by decide) t_109 (v := .ref (34 + 4 * a0.toNatClampNeg)) rfl ?_
  have o3134 := (f3132 (34 + 4 * a0.toNatClampNeg) _ (by simp only [List.mem_cons, List.not_mem_nil, or_false, not_or]; omega) o3133)
  refine y_callVR (M := M_X9_readInto) (M' := M_X6_clear) rfl rfl dX9_readInto_9 m_X6_clear t_767 t_768 t_769 (q1327 hl c0 c1 o3134) rfl rfl o3134 rfl (Nat.le_of_ble_eq_true rfl) (Nat.le_of_ble_eq_true rfl) (Nat.le_of_ble_eq_true rfl) (Nat.le_of_ble_eq_true rfl) (fun h3135 f3136 w3137 => ?_)
  obtain ⟨o3138, -⟩ := w3137
  refine x_aload_n (M := M_X9_readInto) dX9_readInto_12 rfl ?_
  refine x_iload_n (M := M_X9_readInto) dX9_readInto_13 rfl ?_
  refine x_aload_n (M := M_X9_readInto) dX9_readInto_14 rfl ?_
  have o3139 := (f3136 167 _ (by simp only [List.mem_cons, List.not_mem_nil, or_false, not_or]; omega) w3131)
  refine x_getf (M := M_X9_readInto) (ci := 12) (C := RX9) (T := TX9) (N := 12) (ty := tyX9) cl12 dX9_readInto_15 o3139 1 (by decide) t_106 (v := .ref 166) rfl ?_
  have o3141 := (f3136 166 _ (by simp only [List.mem_cons, List.not_mem_nil, or_false, not_or]; omega) (f3132 166 _ (by decide) o3140))
  refine x_alen (M := M_X9_readInto) dX9_readInto_18 o3141 (by decide) ?_
  refine x_mmin (M := M_X9_readInto) dX9_readInto_19 t_771 t_626 t_20 t_627 (Nat.le_of_ble_eq_true rfl) (Nat.le_of_ble_eq_true rfl) (Nat.le_of_ble_eq_true rfl) (Nat.le_of_ble_eq_true rfl) ?_
  refine x_top (M := M_X9_readInto) (y := (Int32.ofInt 0)) (by decide +kernel) ?_
  refine y_put (M := M_X9_readInto) (ci := 12) (C := RX9) (T := TX9) (N := 12) (ty := tyX9) cl12 dX9_readInto_22 o3139 5 (by decide) t_110 (Or.inl rfl) (Nat.le_of_ble_eq_true rfl) rfl (fun h3142 (w3143 : ob h3142 167 = some (.inr (12, [.int (dg &&& Int32.ofInt 3), .ref 166, .ref 168, .ref 169, .ref (34 + 4 * a0.toNatClampNeg), .int (Int32.ofInt 0), .int (0 : Int32), .int (0 : Int32), .int (0 : Int32), .int (0 : Int32), .int (0 : Int32), .int (0 : Int32)]))) f3144 => ?_)
  refine x_aload_n (M := M_X9_readInto) dX9_readInto_25 rfl ?_
  refine x_iconst (M := M_X9_readInto) dX9_readInto_26 ?_
  refine y_put (M := M_X9_readInto) (ci := 12) (C := RX9) (T := TX9) (N := 12) (ty := tyX9) cl12 dX9_readInto_27 w3143 6 (by decide) t_111 (Or.inl rfl) (Nat.le_of_ble_eq_true rfl) rfl (fun h3145 (w3146 : ob h3145 167 = some (.inr (12, [.int (dg &&& Int32.ofInt 3), .ref 166, .ref 168, .ref 169, .ref (34 + 4 * a0.toNatClampNeg), .int (Int32.ofInt 0), .int (Int32.ofInt 0), .int (0 : Int32), .int (0 : Int32), .int (0 : Int32), .int (0 : Int32), .int (0 : Int32)]))) f3147 => ?_)
  refine x_aload_n (M := M_X9_readInto) dX9_readInto_30 rfl ?_
  refine x_iconst (M := M_X9_readInto) dX9_readInto_31 ?_
  refine y_put (M := M_X9_readInto) (ci := 12) (C := RX9) (T := TX9) (N := 12) (ty := tyX9) cl12 dX9_readInto_32 w3146 7 (by decide) t_112 (Or.inl rfl) (Nat.le_of_ble_eq_true rfl) rfl (fun h3148 (w3149 : ob h3148 167 = some (.inr (12, [.int (dg &&& Int32.ofInt 3), .ref 166, .ref 168, .ref 169, .ref (34 + 4 * a0.toNatClampNeg), .int (Int32.ofInt 0), .int (Int32.ofInt 0), .int (Int32.ofInt 0), .int (0 : Int32), .int (0 : Int32), .int (0 : Int32), .int (0 : Int32)]))) f3150 => ?_)
  refine x_aload_n (M := M_X9_readInto) dX9_readInto_35 rfl ?_
  refine x_iconst (M := M_X9_readInto) dX9_readInto_36 ?_
  refine y_put (M := M_X9_readInto) (ci := 12) (C := RX9) (T := TX9) (N := 12) (ty := tyX9) cl12 dX9_readInto_37 w3149 8 (by decide) t_113 (Or.inl rfl) (Nat.le_of_ble_eq_true rfl) rfl (fun h3151 (w3152 : ob h3151 167 = some (.inr (12, [.int (dg &&& Int32.ofInt 3), .ref 166, .ref 168, .ref 169, .ref (34 + 4 * a0.toNatClampNeg), .int (Int32.ofInt 0), .int (Int32.ofInt 0), .int (Int32.ofInt 0), .int (Int32.ofInt 0), .int (0 : Int32), .int (0 : Int32), .int (0 : Int32)]))) f3153 => ?_)
  refine x_aload_n (M := M_X9_readInto) dX9_readInto_40 rfl ?_
  refine x_iconst (M := M_X9_readInto) dX9_readInto_41 ?_
  refine y_put (M := M_X9_readInto) (ci := 12) (C := RX9) (T := TX9) (N := 12) (ty := tyX9) cl12 dX9_readInto_42 w3152 10 (by decide) t_115 (Or.inl rfl) (Nat.le_of_ble_eq_true rfl) rfl (fun h3154 (w3155 : ob h3154 167 = some (.inr (12, [.int (dg &&& Int32.ofInt 3), .ref 166, .ref 168, .ref 169, .ref (34 + 4 * a0.toNatClampNeg), .int (Int32.ofInt 0), .int (Int32.ofInt 0), .int (Int32.ofInt 0), .int (Int32.ofInt 0), .int (0 : Int32), .int (Int32.ofInt 0), .int (0 : Int32)]))) f3156 => ?_)
  refine x_aload_n (M := M_X9_readInto) dX9_readInto_45 rfl ?_
  refine x_iconst (M := M_X9_readInto) dX9_readInto_46 ?_
  refine y_put (M := M_X9_readInto) (ci := 12) (C := RX9) (T := TX9) (N := 12) (ty := tyX9) cl12 dX9_readInto_47 w3155 11 (by decide) t_117 (Or.inl rfl) (Nat.le_of_ble_eq_true rfl) rfl (fun h3157 (w3158 : ob h3157 167 = some (.inr (12, [.int (dg &&& Int32.ofInt 3), .ref 166, .ref 168, .ref 169, .ref (34 + 4 * a0.toNatClampNeg), .int (Int32.ofInt 0), .int (Int32.ofInt 0), .int (Int32.ofInt 0), .int (Int32.ofInt 0), .int (0 : Int32), .int (Int32.ofInt 0), .int (Int32.ofInt 0)]))) f3159 => ?_)
  refine x_aload_n (M := M_X9_readInto) dX9_readInto_50 rfl ?_
  refine y_callVR (M := M_X9_readInto) (M' := M_X9_readShape) rfl rfl dX9_readInto_51 m_X9_readShape t_772 t_774 s_3 (q3184 hl c0 c1 w3158) rfl rfl w3158 rfl (Nat.le_of_ble_eq_true rfl) (Nat.le_of_ble_eq_true rfl) (Nat.le_of_ble_eq_true rfl) (Nat.le_of_ble_eq_true rfl) (fun h3185 f3186 w3187 => ?_)
  obtain ⟨o3188, -⟩ := w3187
  refine x_istore_n (M := M_X9_readInto) dX9_readInto_54 (Nat.le_of_ble_eq_true rfl) rfl ?_
  refine x_iconst (M := M_X9_readInto) dX9_readInto_55 ?_
  refine x_istore (M := M_X9_readInto) dX9_readInto_56 (Nat.le_of_ble_eq_true rfl) rfl ?_
  refine x_iload_n (M := M_X9_readInto) dX9_readInto_58 rfl ?_
  refine x_if_eq (M := M_X9_readInto) (tgt := 113) dX9_readInto_59 (by decide) (fun _ => ?_) (fun q => absurd q (by decide +kernel))
  refine x_aload_n (M := M_X9_readInto) dX9_readInto_113 rfl ?_
  refine x_callVR (M := M_X9_readInto) (M' := M_X9_skipBlanks) rfl rfl dX9_readInto_114 m_X9_skipBlanks t_776 t_778 s_4 (q3190 hl c0 c1 o3188) rfl rfl o3188 rfl (Nat.le_of_ble_eq_true rfl) (Nat.le_of_ble_eq_true rfl) (Nat.le_of_ble_eq_true rfl) (Nat.le_of_ble_eq_true rfl) ?_
  refine x_iload_n (M := M_X9_readInto) dX9_readInto_117 rfl ?_
  refine x_if_eq (M := M_X9_readInto) (tgt := 145) dX9_readInto_118 (by decide) (fun _ => ?_) (fun q => absurd q (by decide +kernel))
  refine x_iconst (M := M_X9_readInto) dX9_readInto_145 ?_
  have o3191 := (f3186 (34 + 4 * a0.toNatClampNeg) _ (by simp only [List.mem_cons, List.not_mem_nil, or_false, not_or]; omega) (f3159 (34 + 4 * a0.toNatClampNeg) _ (by simp only [List.mem_cons, List.not_mem_nil, or_false, not_or]; omega) (f3156 (34 + 4 * a0.toNatClampNeg) _ (by simp only [List.mem_cons, List.not_mem_nil, or_false, not_or]; omega) (f3153 (34 + 4 * a0.toNatClampNeg) _ (by simp only [List.mem_cons, List.not_mem_nil, or_false, not_or]; omega) (f3150 (34 + 4 * a0.toNatClampNeg) _ (by simp only [List.mem_cons, List.not_mem_nil, or_false, not_or]; omega) (f3147 (34 + 4 * a0.toNatClampNeg) _ (by simp only [List.mem_cons, List.not_mem_nil, or_false, not_or]; omega) (f3144 (34 + 4 * a0.toNatClampNeg) _ (by simp only [List.mem_cons, List.not_mem_nil, or_false, not_or]; omega) o3138)))))))
  exact x_zret (M := M_X9_readInto) dX9_readInto_146 rfl (by decide) ⟨rfl, (fr_tr f3186 (by simp) (fr_tr f3159 (by simp) (fr_tr f3156 (by simp) (fr_tr f3153 (by simp) (fr_tr f3150 (by simp) (fr_tr f3147 (by simp) (fr_tr f3144 (by simp) (fr_tr f3136 (by simp) (fr_tr f3132 (by simp) fr_rf))))))))), ⟨o3188, o3191, trivial⟩⟩ (Nat.le_of_ble_eq_true rfl) (Nat.le_of_ble_eq_true rfl)
set_option maxRecDepth 10000 in
theorem q3219 {l : Launch} {E : EE} (hl : l.stackTraces = false) {h : HP} {a0 : Int32} (c0 : ¬ (a0.toInt < 0)) (c1 : a0.toInt < 32) (o3212 : ob h (34 + 4 * a0.toNatClampNeg) = some (.inr (9, [.ref (35 + 4 * a0.toNatClampNeg), .ref (36 + 4 * a0.toNatClampNeg), .ref (37 + 4 * a0.toNatClampNeg), .int (Int32.ofInt 0), .int (Int32.ofInt 0)]))) : en_C l E M_X6_clear 0 0 0 [.ref (34 + 4 * a0.toNatClampNeg)] h (pF none [(34 + 4 * a0.toNatClampNeg)] h (fun h' => ob h' (34 + 4 * a0.toNatClampNeg) = some (.inr (9, [.ref (35 + 4 * a0.toNatClampNeg), .ref (36 + 4 * a0.toNatClampNeg), .ref (37 + 4 * a0.toNatClampNeg), .int (Int32.ofInt 0), .int (Int32.ofInt 0)])) ∧ True)) := by
  have n_a0 : a0.toNatClampNeg < 32 := nc_lt (by omega) (by decide)
  refine en_mk m_X6_clear rfl hl (Nat.le_of_ble_eq_true rfl) ?_
  refine x_aload_n (M := M_X6_clear) dX6_clear_0 rfl ?_
  refine x_iconst (M := M_X6_clear) dX6_clear_1 ?_
  refine y_put (M := M_X6_clear) (ci := 9) (C := RX6) (T := TX6) (N := 5) (ty := tyX6) cl9 dX6_clear_2 o3212 3 (by decide) t_72 (Or.inl rfl) (Nat.le_of_ble_eq_true rfl) rfl (fun h3213 (w3214 : ob h3213 (34 + 4 * a0.toNatClampNeg) = some (.inr (9, [.ref (35 + 4 * a0.toNatClampNeg), .ref (36 + 4 * a0.toNatClampNeg), .ref (37 + 4 * a0.toNatClampNeg), .int (Int32.ofInt 0), .int (Int32.ofInt 0)]))) f3215 => ?_)
  refine x_aload_n (M := M_X6_clear) dX6_clear_5 rfl ?_
  refine x_iconst (M := M_X6_clear) dX6_clear_6 ?_
  refine y_put (M := M_X6_clear) (ci := 9) (C := RX6) (T := TX6) (N := 5) (ty := tyX6) cl9 dX6_clear_7 w3214 4 (by decide) t_83 (Or.inl rfl) (Nat.le_of_ble_eq_true rfl) rfl (fun h3216 (w3217 : ob h3216 (34 + 4 * a0.toNatClampNeg) = some (.inr (9, [.ref (35 + 4 * a0.toNatClampNeg), .ref (36 + 4 * a0.toNatClampNeg), .ref (37 + 4 * a0.toNatClampNeg), .int (Int32.ofInt 0), .int (Int32.ofInt 0)]))) f3218 => ?_)
  exact x_vret (M := M_X6_clear) dX6_clear_10 rfl ⟨rfl, (fr_tr f3218 (by simp) (fr_tr f3215 (by simp) fr_rf)), ⟨w3217, trivial⟩⟩ (Nat.le_of_ble_eq_true rfl) (Nat.le_of_ble_eq_true rfl)
set_option maxRecDepth 10000 in
theorem q3227 {l : Launch} {E : EE} (hl : l.stackTraces = false) {h : HP} {a0 : Int32} (c0 : ¬ (a0.toInt < 0)) (c1 : a0.toInt < 32) (o3205 : ob h 32 = some (.inr (14, [.ref 33, .ref 162, .ref 166, .int (Int32.ofInt 0), .int (0 : Int32), .int (0 : Int32), .ref 167, .ref 170, .ref 173, .ref 177, .ref 193, .ref 208, .ref 222, .ref 238, .ref 252, .ref 274, .ref 275, .ref 276, .int (0 : Int32)]))) (o3220 : ob h (34 + 4 * a0.toNatClampNeg) = some (.inr (9, [.ref (35 + 4 * a0.toNatClampNeg), .ref (36 + 4 * a0.toNatClampNeg), .ref (37 + 4 * a0.toNatClampNeg), .int (Int32.ofInt 0), .int (Int32.ofInt 0)]))) : en_C l E M_X11_kindOrFault 6 1 6 [.ref 32, .ref (34 + 4 * a0.toNatClampNeg), .int (Int32.ofInt 0), .int (Int32.ofInt 3), .int (Int32.ofInt 0)] h (pT "java/lang/IllegalArgumentException" [32, (34 + 4 * a0.toNatClampNeg)] h (fun _ => True)) := by
  have n_a0 : a0.toNatClampNeg < 32 := nc_lt (by omega) (by decide)
  refine en_mk m_X11_kindOrFault rfl hl (Nat.le_of_ble_eq_true rfl) ?_
  refine x_aload_n (M := M_X11_kindOrFault) dX11_kindOrFault_0 rfl ?_
  refine x_iload_n (M := M_X11_kindOrFault) dX11_kindOrFault_1 rfl ?_
  refine y_put (M := M_X11_kindOrFault) (ci := 14) (C := RX11) (T := TX11) (N := 19) (ty := tyX11) cl14 dX11_kindOrFault_2 o3205 4 (by decide) t_567 (Or.inl rfl) (Nat.le_of_ble_eq_true rfl) rfl (fun h3206 (w3207 : ob h3206 32 = some (.inr (14, [.ref 33, .ref 162, .ref 166, .int (Int32.ofInt 0), .int (Int32.ofInt 3), .int (0 : Int32), .ref 167, .ref 170, .ref 173, .ref 177, .ref 193, .ref 208, .ref 222, .ref 238, .ref 252, .ref 274, .ref 275, .ref 276, .int (0 : Int32)]))) f3208 => ?_)
  refine x_aload_n (M := M_X11_kindOrFault) dX11_kindOrFault_5 rfl ?_
  refine x_iload (M := M_X11_kindOrFault) dX11_kindOrFault_6 rfl ?_
  refine y_put (M := M_X11_kindOrFault) (ci := 14) (C := RX11) (T := TX11) (N := 19) (ty := tyX11) cl14 dX11_kindOrFault_8 w3207 5 (by decide) t_568 (Or.inl rfl) (Nat.le_of_ble_eq_true rfl) rfl (fun h3209 (w3210 : ob h3209 32 = some (.inr (14, [.ref 33, .ref 162, .ref 166, .int (Int32.ofInt 0), .int (Int32.ofInt 3), .int (Int32.ofInt 0), .ref 167, .ref 170, .ref 173, .ref 177, .ref 193, .ref 208, .ref 222, .ref 238, .ref 252, .ref 274, .ref 275, .ref 276, .int (0 : Int32)]))) f3211 => ?_)
  refine x_iload_n (M := M_X11_kindOrFault) dX11_kindOrFault_11 rfl ?_
  refine x_if_ne (M := M_X11_kindOrFault) (tgt := 27) dX11_kindOrFault_12 (by decide) (fun q => absurd q (by decide +kernel)) (fun _ => ?_)
  refine x_aload_n (M := M_X11_kindOrFault) dX11_kindOrFault_15 rfl ?_
  have o3221 := (f3211 (34 + 4 * a0.toNatClampNeg) _ (by simp only [List.mem_cons, List.not_mem_nil, or_false, not_or]; omega) (f3208 (34 + 4 * a0.toNatClampNeg) _ (by simp only [List.mem_cons, List.not_mem_nil, or_false, not_or]; omega) o3220))
  refine y_callVR (M := M_X11_kindOrFault) (M' := M_X6_clear) rfl rfl dX11_kindOrFault_16 m_X6_clear t_949 t_768 t_769 (q3219 hl c0 c1 o3221) rfl rfl o3221 rfl (Nat.le_of_ble_eq_true rfl) (Nat.le_of_ble_eq_true rfl) (Nat.le_of_ble_eq_true rfl) (Nat.le_of_ble_eq_true rfl) (fun h3222 f3223 w3224 => ?_)
  obtain ⟨o3225, -⟩ := w3224
  exact x_throw (M := M_X11_kindOrFault) (names := en_nm) rfl dX11_kindOrFault_19 dX11_kindOrFault_22 dX11_kindOrFault_23 dX11_kindOrFault_26 (by decide +kernel) en_nm_ok (Or.inl t_721) (Or.inl t_19) (at_X11_IllegalArgumentException_118) (Nat.le_of_ble_eq_true rfl) (Nat.le_of_ble_eq_true rfl) (Nat.le_of_ble_eq_true rfl) (Nat.le_of_ble_eq_true rfl) (fun n9 => ⟨rfl, (fr_tr (fr_app (List.replicate n9 none)) (fun _ h => nomatch h) (fr_tr f3223 (by simp) (fr_tr f3211 (by simp) (fr_tr f3208 (by simp) fr_rf)))), trivial⟩)
set_option maxRecDepth 10000 in
theorem q3231 {l : Launch} {E : EE} (hl : l.stackTraces = false) {h : HP} {a0 : Int32} {dg : Int32} (c0 : ¬ (a0.toInt < 0)) (c1 : a0.toInt < 32) (o3120 : ob h 32 = some (.inr (14, [.ref 33, .ref 162, .ref 166, .int (0 : Int32), .int (0 : Int32), .int (0 : Int32), .ref 167, .ref 170, .ref 173, .ref 177, .ref 193, .ref 208, .ref 222, .ref 238, .ref 252, .ref 274, .ref 275, .ref 276, .int (0 : Int32)]))) (o3127 : ob h 33 = some (.inl (4, 32, .inr (.inr (.inr (.inr (shf 1 32))))))) (o3193 : ob h 167 = some (.inr (12, [.int (dg &&& Int32.ofInt 3), .ref 166, .ref 168, .ref 169, .ref 162, .int (0 : Int32), .int (0 : Int32), .int (0 : Int32), .int (0 : Int32), .int (0 : Int32), .int (0 : Int32), .int (0 : Int32)]))) (o3195 : ob h (34 + 4 * a0.toNatClampNeg) = some (.inr (9, [.ref (35 + 4 * a0.toNatClampNeg), .ref (36 + 4 * a0.toNatClampNeg), .ref (37 + 4 * a0.toNatClampNeg), .int (0 : Int32), .int (0 : Int32)]))) (o3197 : ob h 166 = some (.inl (2, 65536, .inl (fun _ => 0)))) : en_C l E M_X11_readWords 7 1 6 [.ref 32, .int a0] h (pT "java/lang/IllegalArgumentException" [32, 167, (34 + 4 * a0.toNatClampNeg)] h (fun _ => True)) := by
  have n_a0 : a0.toNatClampNeg < 32 := nc_lt (by omega) (by decide)
  refine en_mk m_X11_readWords rfl hl (Nat.le_of_ble_eq_true rfl) ?_
  refine x_aload_n (M := M_X11_readWords) dX11_readWords_0 rfl ?_
  refine x_getf (M := M_X11_readWords) (ci := 14) (C := RX11) (T := TX11) (N := 19) (ty := tyX11) cl14 dX11_readWords_1 o3120 3 (by decide) t_566 (v := .int (0 : Int32)) rfl ?_
  refine x_top (M := M_X11_readWords) (y := (Int32.ofInt 0)) (by decide +kernel) ?_
  refine x_istore_n (M := M_X11_readWords) dX11_readWords_4 (Nat.le_of_ble_eq_true rfl) rfl ?_
  refine x_aload_n (M := M_X11_readWords) dX11_readWords_5 rfl ?_
  refine x_iconst (M := M_X11_readWords) dX11_readWords_6 ?_
  refine y_put (M := M_X11_readWords) (ci := 14) (C := RX11) (T := TX11) (N := 19) (ty := tyX11) cl14 dX11_readWords_7 o3120 3 (by decide) t_566 (Or.inl rfl) (Nat.le_of_ble_eq_true rfl) rfl (fun h3121 (w3122 : ob h3121 32 = some (.inr (14, [.ref 33, .ref 162, .ref 166, .int (Int32.ofInt 0), .int (0 : Int32), .int (0 : Int32), .ref 167, .ref 170, .ref 173, .ref 177, .ref 193, .ref 208, .ref 222, .ref 238, .ref 252, .ref 274, .ref 275, .ref 276, .int (0 : Int32)]))) f3123 => ?_)
  refine x_aload_n (M := M_X11_readWords) dX11_readWords_10 rfl ?_
  refine x_iload_n (M := M_X11_readWords) dX11_readWords_11 rfl ?_
  have o3128 := (f3123 33 _ (by decide) o3127)
  refine x_callVR (M := M_X11_readWords) (M' := M_X11_slotNumbered) rfl rfl dX11_readWords_12 m_X11_slotNumbered t_744 t_746 s_2 (q3126 hl c0 c1 w3122 o3128) rfl rfl w3122 rfl (Nat.le_of_ble_eq_true rfl) (Nat.le_of_ble_eq_true rfl) (Nat.le_of_ble_eq_true rfl) (Nat.le_of_ble_eq_true rfl) ?_
  refine x_astore_n (M := M_X11_readWords) dX11_readWords_15 (Nat.le_of_ble_eq_true rfl) rfl ?_
  refine x_aload_n (M := M_X11_readWords) dX11_readWords_16 rfl ?_
  refine x_getf (M := M_X11_readWords) (ci := 14) (C := RX11) (T := TX11) (N := 19) (ty := tyX11) cl14 dX11_readWords_17 w3122 6 (by decide) t_569 (v := .ref 167) rfl ?_
  refine x_aload_n (M := M_X11_readWords) dX11_readWords_20 rfl ?_
  refine x_iload_n (M := M_X11_readWords) dX11_readWords_21 rfl ?_
  have o3194 := (f3123 167 _ (by decide) o3193)
  have o3196 := (f3123 (34 + 4 * a0.toNatClampNeg) _ (by simp only [List.mem_cons, List.not_mem_nil, or_false, not_or]; omega) o3195)
  have o3198 := (f3123 166 _ (by decide) o3197)
  refine y_callVR (M := M_X11_readWords) (M' := M_X9_readInto) rfl rfl dX11_readWords_22 m_X9_readInto t_763 t_764 t_765 (q3192 hl c0 c1 o3194 o3196 o3198) rfl rfl o3194 rfl (Nat.le_of_ble_eq_true rfl) (Nat.le_of_ble_eq_true rfl) (Nat.le_of_ble_eq_true rfl) (Nat.le_of_ble_eq_true rfl) (fun h3199 f3200 w3201 => ?_)
  obtain ⟨o3202, o3203, -⟩ := w3201
  refine x_istore (M := M_X11_readWords) dX11_readWords_25 (Nat.le_of_ble_eq_true rfl) rfl ?_
  refine x_aload_n (M := M_X11_readWords) dX11_readWords_27 rfl ?_
  refine x_aload_n (M := M_X11_readWords) dX11_readWords_28 rfl ?_
  refine x_iload (M := M_X11_readWords) dX11_readWords_29 rfl ?_
  refine x_aload_n (M := M_X11_readWords) dX11_readWords_31 rfl ?_
  have o3204 := (f3200 32 _ (by simp only [List.mem_cons, List.not_mem_nil, or_false, not_or]; omega) w3122)
  refine x_getf (M := M_X11_readWords) (ci := 14) (C := RX11) (T := TX11) (N := 19) (ty := tyX11) cl14 dX11_readWords_32 o3204 6 (by decide) t_569 (v := .ref 167) rfl ?_
  refine x_getf (M := M_X11_readWords) (ci := 12) (C := RX9) (T := TX9) (N := 12) (ty := tyX9) cl12 dX11_readWords_35 o3202 10 (by decide) t_116 (v := .int (Int32.ofInt 3)) rfl ?_
  refine x_aload_n (M := M_X11_readWords) dX11_readWords_38 rfl ?_
  refine x_getf (M := M_X11_readWords) (ci := 14) (C := RX11) (T := TX11) (N := 19) (ty := tyX11) cl14 dX11_readWords_39 o3204 6 (by decide) t_569 (v := .ref 167) rfl ?_
  refine x_getf (M := M_X11_readWords) (ci := 12) (C := RX9) (T := TX9) (N := 12) (ty := tyX9) cl12 dX11_readWords_42 o3202 11 (by decide) t_118 (v := .int (Int32.ofInt 0)) rfl ?_
  exact y_callVX (M := M_X11_readWords) (M' := M_X11_kindOrFault) rfl rfl dX11_readWords_45 m_X11_kindOrFault t_945 t_947 s_22 (q3227 hl c0 c1 o3204 o3203) rfl rfl o3204 rfl (Nat.le_of_ble_eq_true rfl) (Nat.le_of_ble_eq_true rfl) (Nat.le_of_ble_eq_true rfl) (Nat.le_of_ble_eq_true rfl) (fun h3228 f3229 w3230 => ⟨rfl, (fr_tr f3229 (by simp) (fr_tr f3200 (by simp) (fr_tr f3123 (by simp) fr_rf))), trivial⟩)
set_option maxRecDepth 10000 in
theorem q3240 {l : Launch} {E : EE} (hl : l.stackTraces = false) {h : HP} {a0 : Int32} {dg : Int32} (c0 : ¬ (a0.toInt < 0)) (c1 : a0.toInt < 32) (o3232 : ob h 32 = some (.inr (14, [.ref 33, .ref 162, .ref 166, .int (0 : Int32), .int (0 : Int32), .int (0 : Int32), .ref 167, .ref 170, .ref 173, .ref 177, .ref 193, .ref 208, .ref 222, .ref 238, .ref 252, .ref 274, .ref 275, .ref 276, .int (0 : Int32)]))) (o3233 : ob h 33 = some (.inl (4, 32, .inr (.inr (.inr (.inr (shf 1 32))))))) (o3234 : ob h 167 = some (.inr (12, [.int (dg &&& Int32.ofInt 3), .ref 166, .ref 168, .ref 169, .ref 162, .int (0 : Int32), .int (0 : Int32), .int (0 : Int32), .int (0 : Int32), .int (0 : Int32), .int (0 : Int32), .int (0 : Int32)]))) (o3235 : ob h (34 + 4 * a0.toNatClampNeg) = some (.inr (9, [.ref (35 + 4 * a0.toNatClampNeg), .ref (36 + 4 * a0.toNatClampNeg), .ref (37 + 4 * a0.toNatClampNeg), .int (0 : Int32), .int (0 : Int32)]))) (o3236 : ob h 166 = some (.inl (2, 65536, .inl (fun _ => 0)))) : en_C l E M_L_readWords 8 1 6 [.ref 32, .int a0, .ref 359] h (pF (some (.int (Int32.ofInt 2))) [32, 167, (34 + 4 * a0.toNatClampNeg)] h (fun _ => True)) := by
  have n_a0 : a0.toNatClampNeg < 32 := nc_lt (by omega) (by decide)
  refine en_mkW m_L_readWords rfl hl (Nat.le_of_ble_eq_true rfl) ?_
  refine x_aload_n (M := M_L_readWords) dL_readWords_0 rfl ?_
  refine x_iconst (M := M_L_readWords) dL_readWords_1 ?_
  refine x_aload_n (M := M_L_readWords) dL_readWords_2 rfl ?_
  refine x_iload_n (M := M_L_readWords) dL_readWords_3 rfl ?_
  refine y_callVHX (M := M_L_readWords) (M' := M_X11_readWords) (i9 := 3) (nx := 16) rfl dL_readWords_4 m_X11_readWords t_740 t_741 t_742 o3232 rfl (q3231 hl c0 c1 o3232 o3233 o3234 o3235 o3236) rfl rfl (Nat.le_of_ble_eq_true rfl) (Nat.le_of_ble_eq_true rfl) (Nat.le_of_ble_eq_true rfl) (Nat.le_of_ble_eq_true rfl) (en_hdn (k0 := 3) [(0, 9, 12, 24)] [] rfl (List.forall_mem_cons.mpr ⟨⟨by decide, "java/lang/IndexOutOfBoundsException", t_739, by decide +kernel, by decide +kernel, by decide +kernel⟩, (fun _ h => nomatch h)⟩) (by decide +kernel) (by decide) t_716 n_723 dL_readWords_15) (by decide) rfl (fun h3237 f3238 w3239 => ?_)
  refine x_iconst (M := M_L_readWords) dL_readWords_16 ?_
  exact x_iret (M := M_L_readWords) dL_readWords_17 rfl ⟨rfl, (fr_tr f3238 (by simp) fr_rf), trivial⟩ (Nat.le_of_ble_eq_true rfl) (Nat.le_of_ble_eq_true rfl)
set_option maxRecDepth 10000 in
theorem q3265 {l : Launch} {E : EE} (hl : l.stackTraces = false) {h : HP} {dg : Int32} (o3260 : ob h 277 = some (.inr (15, ((((RB dg).set 0 (.int (Int32.ofInt 0))).set 4 (.int (Int32.ofInt 0))).set 18 (.int (Int32.ofInt 0)))))) : en_C l E M_X12_fails 0 0 0 [.ref 277, .int (Int32.ofInt 0), .int (Int32.ofInt 1)] h (pF (some (.int (Int32.ofInt 0))) [277] h (fun h' => ob h' 277 = some (.inr (15, ((((RB dg).set 0 (.int (Int32.ofInt 0))).set 4 (.int (Int32.ofInt 0))).set 18 (.int (Int32.ofInt 0))))) ∧ True)) := by
  refine en_mk m_X12_fails rfl hl (Nat.le_of_ble_eq_true rfl) ?_
  refine x_aload_n (M := M_X12_fails) dX12_fails_0 rfl ?_
  refine x_iload_n (M := M_X12_fails) dX12_fails_1 rfl ?_
  refine x_if_eq (M := M_X12_fails) (tgt := 16) dX12_fails_2 (by decide) (fun _ => ?_) (fun q => absurd q (by decide +kernel))
  refine x_aload_n (M := M_X12_fails) dX12_fails_16 rfl ?_
  refine x_getf (M := M_X12_fails) (ci := 15) (C := RX12) (T := TX12) (N := 135) (ty := tyX12) cl15 dX12_fails_17 o3260 0 (by decide) t_2391 (v := .int (Int32.ofInt 0)) rfl ?_
  refine y_put (M := M_X12_fails) (ci := 15) (C := RX12) (T := TX12) (N := 135) (ty := tyX12) cl15 dX12_fails_20 o3260 0 (by decide) t_2391 (Or.inl rfl) (Nat.le_of_ble_eq_true rfl) rfl (fun h3261 w3262 f3263 => ?_)
  have w3264 : ob h3261 277 = some (.inr (15, ((((RB dg).set 0 (.int (Int32.ofInt 0))).set 4 (.int (Int32.ofInt 0))).set 18 (.int (Int32.ofInt 0))))) := by rw [w3262, ls_sw (i := 18) (j := 0) (by decide), ls_sw (i := 4) (j := 0) (by decide), List.set_set]
  refine x_aload_n (M := M_X12_fails) dX12_fails_23 rfl ?_
  refine x_getf (M := M_X12_fails) (ci := 15) (C := RX12) (T := TX12) (N := 135) (ty := tyX12) cl15 dX12_fails_24 w3264 0 (by decide) t_2391 (v := .int (Int32.ofInt 0)) rfl ?_
  refine x_if_eq (M := M_X12_fails) (tgt := 34) dX12_fails_27 (by decide) (fun _ => ?_) (fun q => absurd q (by decide +kernel))
  refine x_iconst (M := M_X12_fails) dX12_fails_34 ?_
  exact x_zret (M := M_X12_fails) dX12_fails_35 rfl (by decide) ⟨rfl, (fr_tr f3263 (by decide) fr_rf), ⟨w3264, trivial⟩⟩ (Nat.le_of_ble_eq_true rfl) (Nat.le_of_ble_eq_true rfl)
set_option maxRecDepth 10000 in
theorem q3292 {l : Launch} {E : EE} (hl : l.stackTraces = false) {h : HP} {dg : Int32} (o3278 : ob h 277 = some (.inr (15, ((((((RB dg).set 0 (.int (Int32.ofInt 0))).set 4 (.int (Int32.ofInt 0))).set 17 (.int (Int32.ofInt 0))).set 18 (.int (Int32.ofInt 0))).set 20 (.int (Int32.ofInt 0)))))) (o3279 : ob h 280 = some (.inl (0, 33, .inl (fun _ => 0)))) (o3285 : ob h 282 = some (.inl (0, 33, .inl (fun _ => 0)))) : en_C l E M_X12_clear 0 0 0 [.ref 277, .int (Int32.ofInt 32)] h (pF none [280, 282] h (fun h' => ob h' 280 = some (.inl (0, 33, .inl (fun _ => 0))) ∧ ob h' 282 = some (.inl (0, 33, .inl (fun _ => 0))) ∧ True)) := by
  refine en_mk m_X12_clear rfl hl (Nat.le_of_ble_eq_true rfl) ?_
  refine x_aload_n (M := M_X12_clear) dX12_clear_0 rfl ?_
  refine x_getf (M := M_X12_clear) (ci := 15) (C := RX12) (T := TX12) (N := 135) (ty := tyX12) cl15 dX12_clear_1 o3278 9 (by decide) t_2400 (v := .ref 280) rfl ?_
  refine x_iload_n (M := M_X12_clear) dX12_clear_4 rfl ?_
  refine x_iconst (M := M_X12_clear) dX12_clear_5 ?_
  refine y_iast (M := M_X12_clear) (k := 32) dX12_clear_6 o3279 (vp_inD (by decide +kernel)) (by decide +kernel) (fun h3280 w3281 f3282 => ?_)
  have w3283 : ob h3280 280 = some (.inl (0, 33, .inl (fun _ => 0))) := by rw [w3281, up_z (k := 32)]
  refine x_aload_n (M := M_X12_clear) dX12_clear_7 rfl ?_
  have o3284 := (f3282 277 _ (by decide) o3278)
  refine x_getf (M := M_X12_clear) (ci := 15) (C := RX12) (T := TX12) (N := 135) (ty := tyX12) cl15 dX12_clear_8 o3284 11 (by decide) t_2402 (v := .ref 282) rfl ?_
  refine x_iload_n (M := M_X12_clear) dX12_clear_11 rfl ?_
  refine x_iconst (M := M_X12_clear) dX12_clear_12 ?_
  have o3286 := (f3282 282 _ (by decide) o3285)
  refine y_iast (M := M_X12_clear) (k := 32) dX12_clear_13 o3286 (vp_inD (by decide +kernel)) (by decide +kernel) (fun h3287 w3288 f3289 => ?_)
  have w3290 : ob h3287 282 = some (.inl (0, 33, .inl (fun _ => 0))) := by rw [w3288, up_z (k := 32)]
  have o3291 := (f3289 280 _ (by decide) w3283)
  exact x_vret (M := M_X12_clear) dX12_clear_14 rfl ⟨rfl, (fr_tr f3289 (by decide) (fr_tr f3282 (by decide) fr_rf)), ⟨o3291, w3290, trivial⟩⟩ (Nat.le_of_ble_eq_true rfl) (Nat.le_of_ble_eq_true rfl)
set_option maxRecDepth 10000 in
theorem q3307 {l : Launch} {E : EE} (hl : l.stackTraces = false) {h : HP} {dg : Int32} (o3306 : ob h 277 = some (.inr (15, (((((((RB dg).set 0 (.int (Int32.ofInt 0))).set 4 (.int (Int32.ofInt 0))).set 17 (.int (Int32.ofInt 0))).set 18 (.int (Int32.ofInt 0))).set 20 (.int (Int32.ofInt 0))).set 21 (.int (Int32.ofInt 0)))))) : en_C l E M_X12_here 0 0 0 [.ref 277] h (pR (some (.int (Int32.ofInt (-1)))) h) := by
  refine en_mk m_X12_here rfl hl (Nat.le_of_ble_eq_true rfl) ?_
  refine x_aload_n (M := M_X12_here) dX12_here_0 rfl ?_
  refine x_getf (M := M_X12_here) (ci := 15) (C := RX12) (T := TX12) (N := 135) (ty := tyX12) cl15 dX12_here_1 o3306 17 (by decide) t_2408 (v := .int (Int32.ofInt 0)) rfl ?_
  refine x_aload_n (M := M_X12_here) dX12_here_4 rfl ?_
  refine x_getf (M := M_X12_here) (ci := 15) (C := RX12) (T := TX12) (N := 135) (ty := tyX12) cl15 dX12_here_5 o3306 18 (by decide) t_2409 (v := .int (Int32.ofInt 0)) rfl ?_
  refine x_icmp_ge (M := M_X12_here) (tgt := 27) dX12_here_8 (by decide) (fun _ => ?_) (fun q => absurd q (by decide +kernel))
  refine x_iconst (M := M_X12_here) dX12_here_27 ?_
  exact x_iret (M := M_X12_here) dX12_here_28 rfl ⟨rfl, rfl⟩ (Nat.le_of_ble_eq_true rfl) (Nat.le_of_ble_eq_true rfl)
set_option maxRecDepth 10000 in
theorem q3309 {l : Launch} {E : EE} (hl : l.stackTraces = false) {h : HP} : en_C l E M_X12_isBlank 0 0 0 [.int (Int32.ofInt (-1))] h (pR (some (.int (Int32.ofInt 0))) h) := by
  refine en_mk m_X12_isBlank rfl hl (Nat.le_of_ble_eq_true rfl) ?_
  refine x_iload_n (M := M_X12_isBlank) dX12_isBlank_0 rfl ?_
  refine x_bipush (M := M_X12_isBlank) dX12_isBlank_1 ?_
  refine x_icmp_eq (M := M_X12_isBlank) (tgt := 24) dX12_isBlank_3 (by decide) (fun q => absurd q (by decide +kernel)) (fun _ => ?_)
  refine x_iload_n (M := M_X12_isBlank) dX12_isBlank_6 rfl ?_
  refine x_bipush (M := M_X12_isBlank) dX12_isBlank_7 ?_
  refine x_icmp_eq (M := M_X12_isBlank) (tgt := 24) dX12_isBlank_9 (by decide) (fun q => absurd q (by decide +kernel)) (fun _ => ?_)
  refine x_iload_n (M := M_X12_isBlank) dX12_isBlank_12 rfl ?_
  refine x_bipush (M := M_X12_isBlank) dX12_isBlank_13 ?_
  refine x_icmp_eq (M := M_X12_isBlank) (tgt := 24) dX12_isBlank_15 (by decide) (fun q => absurd q (by decide +kernel)) (fun _ => ?_)
  refine x_iload_n (M := M_X12_isBlank) dX12_isBlank_18 rfl ?_
  refine x_bipush (M := M_X12_isBlank) dX12_isBlank_19 ?_
  refine x_icmp_ne (M := M_X12_isBlank) (tgt := 28) dX12_isBlank_21 (by decide) (fun _ => ?_) (fun q => absurd q (by decide +kernel))
  refine x_iconst (M := M_X12_isBlank) dX12_isBlank_28 ?_
  exact x_zret (M := M_X12_isBlank) dX12_isBlank_29 rfl (by decide) ⟨rfl, rfl⟩ (Nat.le_of_ble_eq_true rfl) (Nat.le_of_ble_eq_true rfl)
set_option maxRecDepth 10000 in
theorem q3310 {l : Launch} {E : EE} (hl : l.stackTraces = false) {h : HP} {dg : Int32} (o3308 : ob h 277 = some (.inr (15, (((((((RB dg).set 0 (.int (Int32.ofInt 0))).set 4 (.int (Int32.ofInt 0))).set 17 (.int (Int32.ofInt 0))).set 18 (.int (Int32.ofInt 0))).set 20 (.int (Int32.ofInt 0))).set 21 (.int (Int32.ofInt 0)))))) : en_C l E M_X12_skip 1 0 0 [.ref 277] h (pR none h) := by
  refine en_mk m_X12_skip rfl hl (Nat.le_of_ble_eq_true rfl) ?_
  refine x_aload_n (M := M_X12_skip) dX12_skip_0 rfl ?_
  refine x_callVR (M := M_X12_skip) (M' := M_X12_here) rfl rfl dX12_skip_1 m_X12_here t_2860 t_2862 s_164 (q3307 hl o3308) rfl rfl o3308 rfl (Nat.le_of_ble_eq_true rfl) (Nat.le_of_ble_eq_true rfl) (Nat.le_of_ble_eq_true rfl) (Nat.le_of_ble_eq_true rfl) ?_
  refine x_callSR (M := M_X12_skip) (M' := M_X12_isBlank) rfl rfl dX12_skip_4 m_X12_isBlank t_2864 t_2865 (q3309 hl) rfl rfl (Nat.le_of_ble_eq_true rfl) (Nat.le_of_ble_eq_true rfl) (Nat.le_of_ble_eq_true rfl) (Nat.le_of_ble_eq_true rfl) ?_
  refine x_if_eq (M := M_X12_skip) (tgt := 23) dX12_skip_7 (by decide) (fun _ => ?_) (fun q => absurd q (by decide +kernel))
  exact x_vret (M := M_X12_skip) dX12_skip_23 rfl ⟨rfl, rfl⟩ (Nat.le_of_ble_eq_true rfl) (Nat.le_of_ble_eq_true rfl)
set_option maxRecDepth 10000 in
theorem q3321 {l : Launch} {E : EE} (hl : l.stackTraces = false) {h : HP} {dg : Int32} (o3312 : ob h 277 = some (.inr (15, (((((((RB dg).set 0 (.int (Int32.ofInt 0))).set 4 (.int (Int32.ofInt 0))).set 17 (.int (Int32.ofInt 0))).set 18 (.int (Int32.ofInt 0))).set 20 (.int (Int32.ofInt 0))).set 21 (.int (Int32.ofInt 0)))))) : en_C l E M_X12_wrong 0 0 0 [.ref 277, .int (Int32.ofInt 3), .int (Int32.ofInt 0)] h (pF (some (.int (Int32.ofInt 0))) [277] h (fun h' => ob h' 277 = some (.inr (15, (((((((((RB dg).set 0 (.int (Int32.ofInt 0))).set 4 (.int (Int32.ofInt 0))).set 7 (.int (Int32.ofInt 3))).set 8 (.int (Int32.ofInt 0))).set 17 (.int (Int32.ofInt 0))).set 18 (.int (Int32.ofInt 0))).set 20 (.int (Int32.ofInt 0))).set 21 (.int (Int32.ofInt 0))))) ∧ True)) := by
  refine en_mk m_X12_wrong rfl hl (Nat.le_of_ble_eq_true rfl) ?_
  refine x_aload_n (M := M_X12_wrong) dX12_wrong_0 rfl ?_
  refine x_iload_n (M := M_X12_wrong) dX12_wrong_1 rfl ?_
  refine y_put (M := M_X12_wrong) (ci := 15) (C := RX12) (T := TX12) (N := 135) (ty := tyX12) cl15 dX12_wrong_2 o3312 7 (by decide) t_2398 (Or.inl rfl) (Nat.le_of_ble_eq_true rfl) rfl (fun h3313 w3314 f3315 => ?_)
  have w3316 : ob h3313 277 = some (.inr (15, ((((((((RB dg).set 0 (.int (Int32.ofInt 0))).set 4 (.int (Int32.ofInt 0))).set 7 (.int (Int32.ofInt 3))).set 17 (.int (Int32.ofInt 0))).set 18 (.int (Int32.ofInt 0))).set 20 (.int (Int32.ofInt 0))).set 21 (.int (Int32.ofInt 0))))) := by rw [w3314, ls_sw (i := 21) (j := 7) (by decide), ls_sw (i := 20) (j := 7) (by decide), ls_sw (i := 18) (j := 7) (by decide), ls_sw (i := 17) (j := 7) (by decide)]
  refine x_aload_n (M := M_X12_wrong) dX12_wrong_5 rfl ?_
  refine x_iload_n (M := M_X12_wrong) dX12_wrong_6 rfl ?_
  refine y_put (M := M_X12_wrong) (ci := 15) (C := RX12) (T := TX12) (N := 135) (ty := tyX12) cl15 dX12_wrong_7 w3316 8 (by decide) t_2399 (Or.inl rfl) (Nat.le_of_ble_eq_true rfl) rfl (fun h3317 w3318 f3319 => ?_)
  have w3320 : ob h3317 277 = some (.inr (15, (((((((((RB dg).set 0 (.int (Int32.ofInt 0))).set 4 (.int (Int32.ofInt 0))).set 7 (.int (Int32.ofInt 3))).set 8 (.int (Int32.ofInt 0))).set 17 (.int (Int32.ofInt 0))).set 18 (.int (Int32.ofInt 0))).set 20 (.int (Int32.ofInt 0))).set 21 (.int (Int32.ofInt 0))))) := by rw [w3318, ls_sw (i := 21) (j := 8) (by decide), ls_sw (i := 20) (j := 8) (by decide), ls_sw (i := 18) (j := 8) (by decide), ls_sw (i := 17) (j := 8) (by decide)]
  refine x_iconst (M := M_X12_wrong) dX12_wrong_10 ?_
  exact x_zret (M := M_X12_wrong) dX12_wrong_11 rfl (by decide) ⟨rfl, (fr_tr f3319 (by decide) (fr_tr f3315 (by decide) fr_rf)), ⟨w3320, trivial⟩⟩ (Nat.le_of_ble_eq_true rfl) (Nat.le_of_ble_eq_true rfl)
set_option maxRecDepth 10000 in
theorem q3326 {l : Launch} {E : EE} (hl : l.stackTraces = false) {h : HP} {dg : Int32} (o3311 : ob h 277 = some (.inr (15, (((((((RB dg).set 0 (.int (Int32.ofInt 0))).set 4 (.int (Int32.ofInt 0))).set 17 (.int (Int32.ofInt 0))).set 18 (.int (Int32.ofInt 0))).set 20 (.int (Int32.ofInt 0))).set 21 (.int (Int32.ofInt 0)))))) : en_C l E M_X12_strange 1 0 0 [.ref 277, .int (Int32.ofInt 1)] h (pF (some (.int (Int32.ofInt 0))) [277] h (fun h' => ob h' 277 = some (.inr (15, (((((((((RB dg).set 0 (.int (Int32.ofInt 0))).set 4 (.int (Int32.ofInt 0))).set 7 (.int (Int32.ofInt 3))).set 8 (.int (Int32.ofInt 0))).set 17 (.int (Int32.ofInt 0))).set 18 (.int (Int32.ofInt 0))).set 20 (.int (Int32.ofInt 0))).set 21 (.int (Int32.ofInt 0))))) ∧ True)) := by
  refine en_mk m_X12_strange rfl hl (Nat.le_of_ble_eq_true rfl) ?_
  refine x_aload_n (M := M_X12_strange) dX12_strange_0 rfl ?_
  refine x_callVR (M := M_X12_strange) (M' := M_X12_here) rfl rfl dX12_strange_1 m_X12_here t_2860 t_2862 s_164 (q3307 hl o3311) rfl rfl o3311 rfl (Nat.le_of_ble_eq_true rfl) (Nat.le_of_ble_eq_true rfl) (Nat.le_of_ble_eq_true rfl) (Nat.le_of_ble_eq_true rfl) ?_
  refine x_istore_n (M := M_X12_strange) dX12_strange_4 (Nat.le_of_ble_eq_true rfl) rfl ?_
  refine x_iload_n (M := M_X12_strange) dX12_strange_5 rfl ?_
  refine x_iconst (M := M_X12_strange) dX12_strange_6 ?_
  refine x_icmp_eq (M := M_X12_strange) (tgt := 35) dX12_strange_7 (by decide) (fun _ => ?_) (fun q => absurd q (by decide +kernel))
  refine x_iload_n (M := M_X12_strange) dX12_strange_35 rfl ?_
  refine x_iconst (M := M_X12_strange) dX12_strange_36 ?_
  refine x_icmp_eq (M := M_X12_strange) (tgt := 78) dX12_strange_37 (by decide) (fun _ => ?_) (fun q => absurd q (by decide +kernel))
  refine x_iconst (M := M_X12_strange) dX12_strange_78 ?_
  refine x_goto (M := M_X12_strange) (tgt := 83) dX12_strange_79 (by decide) ?_
  refine x_istore_n (M := M_X12_strange) dX12_strange_83 (Nat.le_of_ble_eq_true rfl) rfl ?_
  refine x_aload_n (M := M_X12_strange) dX12_strange_84 rfl ?_
  refine x_iload_n (M := M_X12_strange) dX12_strange_85 rfl ?_
  refine x_if_eq (M := M_X12_strange) (tgt := 93) dX12_strange_86 (by decide) (fun q => absurd q (by decide +kernel)) (fun _ => ?_)
  refine x_iconst (M := M_X12_strange) dX12_strange_89 ?_
  refine x_goto (M := M_X12_strange) (tgt := 94) dX12_strange_90 (by decide) ?_
  refine x_aload_n (M := M_X12_strange) dX12_strange_94 rfl ?_
  refine x_getf (M := M_X12_strange) (ci := 15) (C := RX12) (T := TX12) (N := 135) (ty := tyX12) cl15 dX12_strange_95 o3311 17 (by decide) t_2408 (v := .int (Int32.ofInt 0)) rfl ?_
  refine y_callVR (M := M_X12_strange) (M' := M_X12_wrong) rfl rfl dX12_strange_98 m_X12_wrong t_2874 t_2876 s_166 (q3321 hl o3311) rfl rfl o3311 rfl (Nat.le_of_ble_eq_true rfl) (Nat.le_of_ble_eq_true rfl) (Nat.le_of_ble_eq_true rfl) (Nat.le_of_ble_eq_true rfl) (fun h3322 f3323 w3324 => ?_)
  obtain ⟨o3325, -⟩ := w3324
  exact x_zret (M := M_X12_strange) dX12_strange_101 rfl (by decide) ⟨rfl, (fr_tr f3323 (by decide) fr_rf), ⟨o3325, trivial⟩⟩ (Nat.le_of_ble_eq_true rfl) (Nat.le_of_ble_eq_true rfl)
set_option maxRecDepth 10000 in
theorem q3331 {l : Launch} {E : EE} (hl : l.stackTraces = false) {h : HP} {dg : Int32} (o3302 : ob h 277 = some (.inr (15, ((((((RB dg).set 0 (.int (Int32.ofInt 0))).set 4 (.int (Int32.ofInt 0))).set 17 (.int (Int32.ofInt 0))).set 18 (.int (Int32.ofInt 0))).set 20 (.int (Int32.ofInt 0)))))) : en_C l E M_X12_beginShape 2 0 0 [.ref 277] h (pF (some (.int (Int32.ofInt 0))) [277] h (fun h' => ob h' 277 = some (.inr (15, (((((((((RB dg).set 0 (.int (Int32.ofInt 0))).set 4 (.int (Int32.ofInt 0))).set 7 (.int (Int32.ofInt 3))).set 8 (.int (Int32.ofInt 0))).set 17 (.int (Int32.ofInt 0))).set 18 (.int (Int32.ofInt 0))).set 20 (.int (Int32.ofInt 0))).set 21 (.int (Int32.ofInt 0))))) ∧ True)) := by
  refine en_mk m_X12_beginShape rfl hl (Nat.le_of_ble_eq_true rfl) ?_
  refine x_aload_n (M := M_X12_beginShape) dX12_beginShape_0 rfl ?_
  refine x_iconst (M := M_X12_beginShape) dX12_beginShape_1 ?_
  refine y_put (M := M_X12_beginShape) (ci := 15) (C := RX12) (T := TX12) (N := 135) (ty := tyX12) cl15 dX12_beginShape_2 o3302 21 (by decide) t_2412 (Or.inl rfl) (Nat.le_of_ble_eq_true rfl) (by decide +kernel) (fun h3303 w3304 f3305 => ?_)
  refine x_aload_n (M := M_X12_beginShape) dX12_beginShape_5 rfl ?_
  refine x_callVR (M := M_X12_beginShape) (M' := M_X12_skip) rfl rfl dX12_beginShape_6 m_X12_skip t_2856 t_2858 s_163 (q3310 hl w3304) rfl rfl w3304 rfl (Nat.le_of_ble_eq_true rfl) (Nat.le_of_ble_eq_true rfl) (Nat.le_of_ble_eq_true rfl) (Nat.le_of_ble_eq_true rfl) ?_
  refine x_aload_n (M := M_X12_beginShape) dX12_beginShape_9 rfl ?_
  refine x_callVR (M := M_X12_beginShape) (M' := M_X12_here) rfl rfl dX12_beginShape_10 m_X12_here t_2860 t_2862 s_164 (q3307 hl w3304) rfl rfl w3304 rfl (Nat.le_of_ble_eq_true rfl) (Nat.le_of_ble_eq_true rfl) (Nat.le_of_ble_eq_true rfl) (Nat.le_of_ble_eq_true rfl) ?_
  refine x_iconst (M := M_X12_beginShape) dX12_beginShape_13 ?_
  refine x_icmp_eq (M := M_X12_beginShape) (tgt := 27) dX12_beginShape_14 (by decide) (fun _ => ?_) (fun q => absurd q (by decide +kernel))
  refine x_aload_n (M := M_X12_beginShape) dX12_beginShape_27 rfl ?_
  refine x_iconst (M := M_X12_beginShape) dX12_beginShape_28 ?_
  refine y_callVR (M := M_X12_beginShape) (M' := M_X12_strange) rfl rfl dX12_beginShape_29 m_X12_strange t_2870 t_2872 s_165 (q3326 hl w3304) rfl rfl w3304 rfl (Nat.le_of_ble_eq_true rfl) (Nat.le_of_ble_eq_true rfl) (Nat.le_of_ble_eq_true rfl) (Nat.le_of_ble_eq_true rfl) (fun h3327 f3328 w3329 => ?_)
  obtain ⟨o3330, -⟩ := w3329
  exact x_zret (M := M_X12_beginShape) dX12_beginShape_32 rfl (by decide) ⟨rfl, (fr_tr f3328 (by decide) (fr_tr f3305 (by decide) fr_rf)), ⟨o3330, trivial⟩⟩ (Nat.le_of_ble_eq_true rfl) (Nat.le_of_ble_eq_true rfl)
set_option maxRecDepth 10000 in
theorem q3339 {l : Launch} {E : EE} (hl : l.stackTraces = false) {h : HP} {dg : Int32} (o3270 : ob h 277 = some (.inr (15, ((((RB dg).set 0 (.int (Int32.ofInt 0))).set 4 (.int (Int32.ofInt 0))).set 18 (.int (Int32.ofInt 0)))))) (o3293 : ob h 280 = some (.inl (0, 33, .inl (fun _ => 0)))) (o3295 : ob h 282 = some (.inl (0, 33, .inl (fun _ => 0)))) : en_C l E M_X12_words 3 0 0 [.ref 277] h (pF (some (.int (Int32.ofInt 0))) [277, 280, 282] h (fun h' => ob h' 277 = some (.inr (15, (((((((((RB dg).set 0 (.int (Int32.ofInt 0))).set 4 (.int (Int32.ofInt 0))).set 7 (.int (Int32.ofInt 3))).set 8 (.int (Int32.ofInt 0))).set 17 (.int (Int32.ofInt 0))).set 18 (.int (Int32.ofInt 0))).set 20 (.int (Int32.ofInt 0))).set 21 (.int (Int32.ofInt 0))))) ∧ ob h' 280 = some (.inl (0, 33, .inl (fun _ => 0))) ∧ ob h' 282 = some (.inl (0, 33, .inl (fun _ => 0))) ∧ True)) := by
  refine en_mk m_X12_words rfl hl (Nat.le_of_ble_eq_true rfl) ?_
  refine x_aload_n (M := M_X12_words) dX12_words_0 rfl ?_
  refine x_iconst (M := M_X12_words) dX12_words_1 ?_
  refine y_put (M := M_X12_words) (ci := 15) (C := RX12) (T := TX12) (N := 135) (ty := tyX12) cl15 dX12_words_2 o3270 17 (by decide) t_2408 (Or.inl rfl) (Nat.le_of_ble_eq_true rfl) rfl (fun h3271 w3272 f3273 => ?_)
  have w3274 : ob h3271 277 = some (.inr (15, (((((RB dg).set 0 (.int (Int32.ofInt 0))).set 4 (.int (Int32.ofInt 0))).set 17 (.int (Int32.ofInt 0))).set 18 (.int (Int32.ofInt 0))))) := by rw [w3272, ls_sw (i := 18) (j := 17) (by decide)]
  refine x_aload_n (M := M_X12_words) dX12_words_5 rfl ?_
  refine x_iconst (M := M_X12_words) dX12_words_6 ?_
  refine y_put (M := M_X12_words) (ci := 15) (C := RX12) (T := TX12) (N := 135) (ty := tyX12) cl15 dX12_words_7 w3274 20 (by decide) t_2411 (Or.inl rfl) (Nat.le_of_ble_eq_true rfl) rfl (fun h3275 w3276 f3277 => ?_)
  refine x_aload_n (M := M_X12_words) dX12_words_10 rfl ?_
  refine x_bipush (M := M_X12_words) dX12_words_11 ?_
  refine x_top (M := M_X12_words) (y := (Int32.ofInt 32)) (by decide +kernel) ?_
  have o3294 := (f3277 280 _ (by decide) (f3273 280 _ (by decide) o3293))
  have o3296 := (f3277 282 _ (by decide) (f3273 282 _ (by decide) o3295))
  refine y_callVR (M := M_X12_words) (M' := M_X12_clear) rfl rfl dX12_words_13 m_X12_clear t_2848 t_2850 s_161 (q3292 hl w3276 o3294 o3296) rfl rfl w3276 rfl (Nat.le_of_ble_eq_true rfl) (Nat.le_of_ble_eq_true rfl) (Nat.le_of_ble_eq_true rfl) (Nat.le_of_ble_eq_true rfl) (fun h3297 f3298 w3299 => ?_)
  obtain ⟨o3300, o3301, -⟩ := w3299
  refine x_iconst (M := M_X12_words) dX12_words_16 ?_
  refine x_istore_n (M := M_X12_words) dX12_words_17 (Nat.le_of_ble_eq_true rfl) rfl ?_
  refine x_iconst (M := M_X12_words) dX12_words_18 ?_
  refine x_istore_n (M := M_X12_words) dX12_words_19 (Nat.le_of_ble_eq_true rfl) rfl ?_
  refine x_iload_n (M := M_X12_words) dX12_words_20 rfl ?_
  refine x_if_eq (M := M_X12_words) (tgt := 133) dX12_words_21 (by decide) (fun q => absurd q (by decide +kernel)) (fun _ => ?_)
  refine x_iload_n (M := M_X12_words) dX12_words_24 rfl ?_
  refine x_if_ne (M := M_X12_words) (tgt := 35) dX12_words_25 (by decide) (fun _ => ?_) (fun q => absurd q (by decide +kernel))
  refine x_iload_n (M := M_X12_words) dX12_words_35 rfl ?_
  refine x_if_eq (M := M_X12_words) (tgt := 64) dX12_words_36 (by decide) (fun q => absurd q (by decide +kernel)) (fun _ => ?_)
  refine x_aload_n (M := M_X12_words) dX12_words_39 rfl ?_
  have o3332 := (f3298 277 _ (by decide) w3276)
  refine y_callVR (M := M_X12_words) (M' := M_X12_beginShape) rfl rfl dX12_words_40 m_X12_beginShape t_2852 t_2854 s_162 (q3331 hl o3332) rfl rfl o3332 rfl (Nat.le_of_ble_eq_true rfl) (Nat.le_of_ble_eq_true rfl) (Nat.le_of_ble_eq_true rfl) (Nat.le_of_ble_eq_true rfl) (fun h3333 f3334 w3335 => ?_)
  obtain ⟨o3336, -⟩ := w3335
  refine x_istore_n (M := M_X12_words) dX12_words_43 (Nat.le_of_ble_eq_true rfl) rfl ?_
  refine x_iload_n (M := M_X12_words) dX12_words_44 rfl ?_
  refine x_if_eq (M := M_X12_words) (tgt := 59) dX12_words_45 (by decide) (fun _ => ?_) (fun q => absurd q (by decide +kernel))
  refine x_iconst (M := M_X12_words) dX12_words_59 ?_
  refine x_istore_n (M := M_X12_words) dX12_words_60 (Nat.le_of_ble_eq_true rfl) rfl ?_
  refine x_goto (M := M_X12_words) (tgt := 20) dX12_words_61 (by decide) ?_
  refine x_iload_n (M := M_X12_words) dX12_words_20 rfl ?_
  refine x_if_eq (M := M_X12_words) (tgt := 133) dX12_words_21 (by decide) (fun _ => ?_) (fun q => absurd q (by decide +kernel))
  refine x_iload_n (M := M_X12_words) dX12_words_133 rfl ?_
  refine x_if_ne (M := M_X12_words) (tgt := 139) dX12_words_134 (by decide) (fun q => absurd q (by decide +kernel)) (fun _ => ?_)
  refine x_iconst (M := M_X12_words) dX12_words_137 ?_
  have o3337 := (f3334 280 _ (by decide) o3300)
  have o3338 := (f3334 282 _ (by decide) o3301)
  exact x_zret (M := M_X12_words) dX12_words_138 rfl (by decide) ⟨rfl, (fr_tr f3334 (by decide) (fr_tr f3298 (by decide) (fr_tr f3277 (by decide) (fr_tr f3273 (by decide) fr_rf)))), ⟨o3336, o3337, o3338, trivial⟩⟩ (Nat.le_of_ble_eq_true rfl) (Nat.le_of_ble_eq_true rfl)
set_option maxRecDepth 10000 in
theorem q3364 {l : Launch} {E : EE} (hl : l.stackTraces = false) {h : HP} {a0 : Int32} {dg : Int32} (c0 : ¬ (a0.toInt < 0)) (c1 : a0.toInt < 32) (o3350 : ob h 277 = some (.inr (15, (((((((((RB dg).set 0 (.int (Int32.ofInt 0))).set 4 (.int (Int32.ofInt 0))).set 7 (.int (Int32.ofInt 3))).set 8 (.int (Int32.ofInt 0))).set 17 (.int (Int32.ofInt 0))).set 18 (.int (Int32.ofInt 0))).set 20 (.int (Int32.ofInt 0))).set 21 (.int (Int32.ofInt 0)))))) (o3351 : ob h 280 = some (.inl (0, 33, .inl (fun _ => 0)))) (o3357 : ob h 282 = some (.inl (0, 33, .inl (fun _ => 0)))) : en_C l E M_X12_clear 0 0 0 [.ref 277, .int a0] h (pF none [280, 282] h (fun h' => ob h' 280 = some (.inl (0, 33, .inl (fun _ => 0))) ∧ ob h' 282 = some (.inl (0, 33, .inl (fun _ => 0))) ∧ True)) := by
  refine en_mk m_X12_clear rfl hl (Nat.le_of_ble_eq_true rfl) ?_
  refine x_aload_n (M := M_X12_clear) dX12_clear_0 rfl ?_
  refine x_getf (M := M_X12_clear) (ci := 15) (C := RX12) (T := TX12) (N := 135) (ty := tyX12) cl15 dX12_clear_1 o3350 9 (by decide) t_2400 (v := .ref 280) rfl ?_
  refine x_iload_n (M := M_X12_clear) dX12_clear_4 rfl ?_
  refine x_iconst (M := M_X12_clear) dX12_clear_5 ?_
  refine y_iast (M := M_X12_clear) (k := a0.toNatClampNeg) dX12_clear_6 o3351 (vp_in_s (by omega) (by omega)) rfl (fun h3352 w3353 f3354 => ?_)
  have w3355 : ob h3352 280 = some (.inl (0, 33, .inl (fun _ => 0))) := by rw [w3353, up_z (k := a0.toNatClampNeg)]
  refine x_aload_n (M := M_X12_clear) dX12_clear_7 rfl ?_
  have o3356 := (f3354 277 _ (by decide) o3350)
  refine x_getf (M := M_X12_clear) (ci := 15) (C := RX12) (T := TX12) (N := 135) (ty := tyX12) cl15 dX12_clear_8 o3356 11 (by decide) t_2402 (v := .ref 282) rfl ?_
  refine x_iload_n (M := M_X12_clear) dX12_clear_11 rfl ?_
  refine x_iconst (M := M_X12_clear) dX12_clear_12 ?_
  have o3358 := (f3354 282 _ (by decide) o3357)
  refine y_iast (M := M_X12_clear) (k := a0.toNatClampNeg) dX12_clear_13 o3358 (vp_in_s (by omega) (by omega)) rfl (fun h3359 w3360 f3361 => ?_)
  have w3362 : ob h3359 282 = some (.inl (0, 33, .inl (fun _ => 0))) := by rw [w3360, up_z (k := a0.toNatClampNeg)]
  have o3363 := (f3361 280 _ (by decide) w3355)
  exact x_vret (M := M_X12_clear) dX12_clear_14 rfl ⟨rfl, (fr_tr f3361 (by decide) (fr_tr f3354 (by decide) fr_rf)), ⟨o3363, w3362, trivial⟩⟩ (Nat.le_of_ble_eq_true rfl) (Nat.le_of_ble_eq_true rfl)
set_option maxRecDepth 10000 in
theorem q3375 {l : Launch} {E : EE} (hl : l.stackTraces = false) {h : HP} {dg : Int32} (o3370 : ob h 277 = some (.inr (15, (((((((((RB dg).set 0 (.int (Int32.ofInt 0))).set 4 (.int (Int32.ofInt 0))).set 7 (.int (Int32.ofInt 3))).set 8 (.int (Int32.ofInt 0))).set 17 (.int (Int32.ofInt 0))).set 18 (.int (Int32.ofInt 0))).set 20 (.int (Int32.ofInt 0))).set 21 (.int (Int32.ofInt 0)))))) : en_C l E M_X12_fails 0 0 0 [.ref 277, .int (Int32.ofInt 1), .int (Int32.ofInt 2)] h (pF (some (.int (Int32.ofInt 1))) [277] h (fun h' => ob h' 277 = some (.inr (15, (((((((((RB dg).set 0 (.int (Int32.ofInt 2))).set 4 (.int (Int32.ofInt 0))).set 7 (.int (Int32.ofInt 3))).set 8 (.int (Int32.ofInt 0))).set 17 (.int (Int32.ofInt 0))).set 18 (.int (Int32.ofInt 0))).set 20 (.int (Int32.ofInt 0))).set 21 (.int (Int32.ofInt 0))))) ∧ True)) := by
  refine en_mk m_X12_fails rfl hl (Nat.le_of_ble_eq_true rfl) ?_
  refine x_aload_n (M := M_X12_fails) dX12_fails_0 rfl ?_
  refine x_iload_n (M := M_X12_fails) dX12_fails_1 rfl ?_
  refine x_if_eq (M := M_X12_fails) (tgt := 16) dX12_fails_2 (by decide) (fun q => absurd q (by decide +kernel)) (fun _ => ?_)
  refine x_aload_n (M := M_X12_fails) dX12_fails_5 rfl ?_
  refine x_getf (M := M_X12_fails) (ci := 15) (C := RX12) (T := TX12) (N := 135) (ty := tyX12) cl15 dX12_fails_6 o3370 0 (by decide) t_2391 (v := .int (Int32.ofInt 0)) rfl ?_
  refine x_if_ne (M := M_X12_fails) (tgt := 16) dX12_fails_9 (by decide) (fun q => absurd q (by decide +kernel)) (fun _ => ?_)
  refine x_iload_n (M := M_X12_fails) dX12_fails_12 rfl ?_
  refine x_goto (M := M_X12_fails) (tgt := 20) dX12_fails_13 (by decide) ?_
  refine y_put (M := M_X12_fails) (ci := 15) (C := RX12) (T := TX12) (N := 135) (ty := tyX12) cl15 dX12_fails_20 o3370 0 (by decide) t_2391 (Or.inl rfl) (Nat.le_of_ble_eq_true rfl) rfl (fun h3371 w3372 f3373 => ?_)
  have w3374 : ob h3371 277 = some (.inr (15, (((((((((RB dg).set 0 (.int (Int32.ofInt 2))).set 4 (.int (Int32.ofInt 0))).set 7 (.int (Int32.ofInt 3))).set 8 (.int (Int32.ofInt 0))).set 17 (.int (Int32.ofInt 0))).set 18 (.int (Int32.ofInt 0))).set 20 (.int (Int32.ofInt 0))).set 21 (.int (Int32.ofInt 0))))) := by rw [w3372, ls_sw (i := 21) (j := 0) (by decide), ls_sw (i := 20) (j := 0) (by decide), ls_sw (i := 18) (j := 0) (by decide), ls_sw (i := 17) (j := 0) (by decide), ls_sw (i := 8) (j := 0) (by decide), ls_sw (i := 7) (j := 0) (by decide), ls_sw (i := 4) (j := 0) (by decide), List.set_set]
  refine x_aload_n (M := M_X12_fails) dX12_fails_23 rfl ?_
  refine x_getf (M := M_X12_fails) (ci := 15) (C := RX12) (T := TX12) (N := 135) (ty := tyX12) cl15 dX12_fails_24 w3374 0 (by decide) t_2391 (v := .int (Int32.ofInt 2)) rfl ?_
  refine x_if_eq (M := M_X12_fails) (tgt := 34) dX12_fails_27 (by decide) (fun q => absurd q (by decide +kernel)) (fun _ => ?_)
  refine x_iconst (M := M_X12_fails) dX12_fails_30 ?_
  refine x_goto (M := M_X12_fails) (tgt := 35) dX12_fails_31 (by decide) ?_
  exact x_zret (M := M_X12_fails) dX12_fails_35 rfl (by decide) ⟨rfl, (fr_tr f3373 (by decide) fr_rf), ⟨w3374, trivial⟩⟩ (Nat.le_of_ble_eq_true rfl) (Nat.le_of_ble_eq_true rfl)
set_option maxRecDepth 10000 in
theorem q3383 {l : Launch} {E : EE} (hl : l.stackTraces = false) {h : HP} {a0 : Int32} {dg : Int32} (c0 : ¬ (a0.toInt < 0)) (c1 : a0.toInt < 32) (o3249 : ob h 277 = some (.inr (15, (RB dg)))) (o3340 : ob h 280 = some (.inl (0, 33, .inl (fun _ => 0)))) (o3342 : ob h 282 = some (.inl (0, 33, .inl (fun _ => 0)))) : en_C l E M_X12_reads 4 0 0 [.ref 277, .int a0, .int (Int32.ofInt 1)] h (pF (some (.int (Int32.ofInt 0))) [277, 280, 282] h (fun h' => ob h' 277 = some (.inr (15, (((((((((RB dg).set 0 (.int (Int32.ofInt 2))).set 4 (.int (Int32.ofInt 0))).set 7 (.int (Int32.ofInt 3))).set 8 (.int (Int32.ofInt 0))).set 17 (.int (Int32.ofInt 0))).set 18 (.int (Int32.ofInt 0))).set 20 (.int (Int32.ofInt 0))).set 21 (.int (Int32.ofInt 0))))) ∧ ob h' 280 = some (.inl (0, 33, .inl (fun _ => 0))) ∧ ob h' 282 = some (.inl (0, 33, .inl (fun _ => 0))) ∧ True)) := by
  refine en_mk m_X12_reads rfl hl (Nat.le_of_ble_eq_true rfl) ?_
  refine x_aload_n (M := M_X12_reads) dX12_reads_0 rfl ?_
  refine x_iconst (M := M_X12_reads) dX12_reads_1 ?_
  refine y_put (M := M_X12_reads) (ci := 15) (C := RX12) (T := TX12) (N := 135) (ty := tyX12) cl15 dX12_reads_2 o3249 0 (by decide) t_2391 (Or.inl rfl) (Nat.le_of_ble_eq_true rfl) rfl (fun h3250 w3251 f3252 => ?_)
  refine x_aload_n (M := M_X12_reads) dX12_reads_5 rfl ?_
  refine x_aload_n (M := M_X12_reads) dX12_reads_6 rfl ?_
  refine x_getf (M := M_X12_reads) (ci := 15) (C := RX12) (T := TX12) (N := 135) (ty := tyX12) cl15 dX12_reads_7 w3251 4 (by decide) t_2395 (v := .int (0 : Int32)) rfl ?_
  refine x_top (M := M_X12_reads) (y := (Int32.ofInt 0)) (by decide +kernel) ?_
  refine y_put (M := M_X12_reads) (ci := 15) (C := RX12) (T := TX12) (N := 135) (ty := tyX12) cl15 dX12_reads_10 w3251 18 (by decide) t_2409 (Or.inl rfl) (Nat.le_of_ble_eq_true rfl) rfl (fun h3253 w3254 f3255 => ?_)
  refine x_aload_n (M := M_X12_reads) dX12_reads_13 rfl ?_
  refine x_iconst (M := M_X12_reads) dX12_reads_14 ?_
  refine y_put (M := M_X12_reads) (ci := 15) (C := RX12) (T := TX12) (N := 135) (ty := tyX12) cl15 dX12_reads_15 w3254 4 (by decide) t_2395 (Or.inl rfl) (Nat.le_of_ble_eq_true rfl) rfl (fun h3256 w3257 f3258 => ?_)
  have w3259 : ob h3256 277 = some (.inr (15, ((((RB dg).set 0 (.int (Int32.ofInt 0))).set 4 (.int (Int32.ofInt 0))).set 18 (.int (Int32.ofInt 0))))) := by rw [w3257, ls_sw (i := 18) (j := 4) (by decide)]
  refine x_aload_n (M := M_X12_reads) dX12_reads_18 rfl ?_
  refine x_iload_n (M := M_X12_reads) dX12_reads_19 rfl ?_
  refine x_callSR (M := M_X12_reads) (M' := M_X12_isSlot) rfl rfl dX12_reads_20 m_X12_isSlot t_2841 t_2842 (q447 hl c0 c1) rfl rfl (Nat.le_of_ble_eq_true rfl) (Nat.le_of_ble_eq_true rfl) (Nat.le_of_ble_eq_true rfl) (Nat.le_of_ble_eq_true rfl) ?_
  refine x_if_ne (M := M_X12_reads) (tgt := 30) dX12_reads_23 (by decide) (fun _ => ?_) (fun q => absurd q (by decide +kernel))
  refine x_iconst (M := M_X12_reads) dX12_reads_30 ?_
  refine x_iconst (M := M_X12_reads) dX12_reads_31 ?_
  refine y_callVR (M := M_X12_reads) (M' := M_X12_fails) rfl rfl dX12_reads_32 m_X12_fails t_2805 t_2807 s_157 (q3265 hl w3259) rfl rfl w3259 rfl (Nat.le_of_ble_eq_true rfl) (Nat.le_of_ble_eq_true rfl) (Nat.le_of_ble_eq_true rfl) (Nat.le_of_ble_eq_true rfl) (fun h3266 f3267 w3268 => ?_)
  obtain ⟨o3269, -⟩ := w3268
  refine x_if_eq (M := M_X12_reads) (tgt := 40) dX12_reads_35 (by decide) (fun _ => ?_) (fun q => absurd q (by decide +kernel))
  refine x_iload_n (M := M_X12_reads) dX12_reads_40 rfl ?_
  refine x_if_eq (M := M_X12_reads) (tgt := 51) dX12_reads_41 (by decide) (fun q => absurd q (by decide +kernel)) (fun _ => ?_)
  refine x_aload_n (M := M_X12_reads) dX12_reads_44 rfl ?_
  have o3341 := (f3267 280 _ (by decide) (f3258 280 _ (by decide) (f3255 280 _ (by decide) (f3252 280 _ (by decide) o3340))))
  have o3343 := (f3267 282 _ (by decide) (f3258 282 _ (by decide) (f3255 282 _ (by decide) (f3252 282 _ (by decide) o3342))))
  refine y_callVR (M := M_X12_reads) (M' := M_X12_words) rfl rfl dX12_reads_45 m_X12_words t_2844 t_2846 s_160 (q3339 hl o3269 o3341 o3343) rfl rfl o3269 rfl (Nat.le_of_ble_eq_true rfl) (Nat.le_of_ble_eq_true rfl) (Nat.le_of_ble_eq_true rfl) (Nat.le_of_ble_eq_true rfl) (fun h3344 f3345 w3346 => ?_)
  obtain ⟨o3347, o3348, o3349, -⟩ := w3346
  refine x_goto (M := M_X12_reads) (tgt := 55) dX12_reads_48 (by decide) ?_
  refine x_istore_n (M := M_X12_reads) dX12_reads_55 (Nat.le_of_ble_eq_true rfl) rfl ?_
  refine x_aload_n (M := M_X12_reads) dX12_reads_56 rfl ?_
  refine x_iload_n (M := M_X12_reads) dX12_reads_57 rfl ?_
  refine y_callVR (M := M_X12_reads) (M' := M_X12_clear) rfl rfl dX12_reads_58 m_X12_clear t_2848 t_2850 s_161 (q3364 hl c0 c1 o3347 o3348 o3349) rfl rfl o3347 rfl (Nat.le_of_ble_eq_true rfl) (Nat.le_of_ble_eq_true rfl) (Nat.le_of_ble_eq_true rfl) (Nat.le_of_ble_eq_true rfl) (fun h3365 f3366 w3367 => ?_)
  obtain ⟨o3368, o3369, -⟩ := w3367
  refine x_aload_n (M := M_X12_reads) dX12_reads_61 rfl ?_
  refine x_iload_n (M := M_X12_reads) dX12_reads_62 rfl ?_
  refine x_if_ne (M := M_X12_reads) (tgt := 70) dX12_reads_63 (by decide) (fun q => absurd q (by decide +kernel)) (fun _ => ?_)
  refine x_iconst (M := M_X12_reads) dX12_reads_66 ?_
  refine x_goto (M := M_X12_reads) (tgt := 71) dX12_reads_67 (by decide) ?_
  refine x_iconst (M := M_X12_reads) dX12_reads_71 ?_
  have o3376 := (f3366 277 _ (by decide) o3347)
  refine y_callVR (M := M_X12_reads) (M' := M_X12_fails) rfl rfl dX12_reads_72 m_X12_fails t_2805 t_2807 s_157 (q3375 hl o3376) rfl rfl o3376 rfl (Nat.le_of_ble_eq_true rfl) (Nat.le_of_ble_eq_true rfl) (Nat.le_of_ble_eq_true rfl) (Nat.le_of_ble_eq_true rfl) (fun h3377 f3378 w3379 => ?_)
  obtain ⟨o3380, -⟩ := w3379
  refine x_if_eq (M := M_X12_reads) (tgt := 80) dX12_reads_75 (by decide) (fun q => absurd q (by decide +kernel)) (fun _ => ?_)
  refine x_iconst (M := M_X12_reads) dX12_reads_78 ?_
  have o3381 := (f3378 280 _ (by decide) o3368)
  have o3382 := (f3378 282 _ (by decide) o3369)
  exact x_iret (M := M_X12_reads) dX12_reads_79 rfl ⟨rfl, (fr_tr f3378 (by decide) (fr_tr f3366 (by decide) (fr_tr f3345 (by decide) (fr_tr f3267 (by decide) (fr_tr f3258 (by decide) (fr_tr f3255 (by decide) (fr_tr f3252 (by decide) fr_rf))))))), ⟨o3380, o3381, o3382, trivial⟩⟩ (Nat.le_of_ble_eq_true rfl) (Nat.le_of_ble_eq_true rfl)
set_option maxRecDepth 10000 in
theorem q3393 {l : Launch} {E : EE} (hl : l.stackTraces = false) {h : HP} {a0 : Int32} {dg : Int32} (c0 : ¬ (a0.toInt < 0)) (c1 : a0.toInt < 32) (o3384 : ob h 277 = some (.inr (15, (RB dg)))) (o3385 : ob h 280 = some (.inl (0, 33, .inl (fun _ => 0)))) (o3386 : ob h 282 = some (.inl (0, 33, .inl (fun _ => 0)))) : en_C l E M_X12_readWords 5 0 0 [.ref 277, .int a0] h (pF (some (.int (Int32.ofInt 0))) [277, 280, 282] h (fun h' => ob h' 277 = some (.inr (15, (((((((((RB dg).set 0 (.int (Int32.ofInt 2))).set 4 (.int (Int32.ofInt 0))).set 7 (.int (Int32.ofInt 3))).set 8 (.int (Int32.ofInt 0))).set 17 (.int (Int32.ofInt 0))).set 18 (.int (Int32.ofInt 0))).set 20 (.int (Int32.ofInt 0))).set 21 (.int (Int32.ofInt 0))))) ∧ ob h' 280 = some (.inl (0, 33, .inl (fun _ => 0))) ∧ ob h' 282 = some (.inl (0, 33, .inl (fun _ => 0))) ∧ True)) := by
  refine en_mk m_X12_readWords rfl hl (Nat.le_of_ble_eq_true rfl) ?_
  refine x_aload_n (M := M_X12_readWords) dX12_readWords_0 rfl ?_
  refine x_iload_n (M := M_X12_readWords) dX12_readWords_1 rfl ?_
  refine x_iconst (M := M_X12_readWords) dX12_readWords_2 ?_
  refine y_callVR (M := M_X12_readWords) (M' := M_X12_reads) rfl rfl dX12_readWords_3 m_X12_reads t_2837 t_2839 s_159 (q3383 hl c0 c1 o3384 o3385 o3386) rfl rfl o3384 rfl (Nat.le_of_ble_eq_true rfl) (Nat.le_of_ble_eq_true rfl) (Nat.le_of_ble_eq_true rfl) (Nat.le_of_ble_eq_true rfl) (fun h3387 f3388 w3389 => ?_)
  obtain ⟨o3390, o3391, o3392, -⟩ := w3389
  exact x_iret (M := M_X12_readWords) dX12_readWords_6 rfl ⟨rfl, (fr_tr f3388 (by decide) fr_rf), ⟨o3390, o3391, o3392, trivial⟩⟩ (Nat.le_of_ble_eq_true rfl) (Nat.le_of_ble_eq_true rfl)
set_option maxRecDepth 10000 in
theorem q3407 {l : Launch} {E : EE} (hl : l.stackTraces = false) {h : HP} {dg : Int32} (o3406 : ob h 277 = some (.inr (15, (((((((((RB dg).set 0 (.int (Int32.ofInt 2))).set 4 (.int (Int32.ofInt 0))).set 7 (.int (Int32.ofInt 3))).set 8 (.int (Int32.ofInt 0))).set 17 (.int (Int32.ofInt 0))).set 18 (.int (Int32.ofInt 0))).set 20 (.int (Int32.ofInt 0))).set 21 (.int (Int32.ofInt 0)))))) : en_C l E M_X12_thrown 0 0 0 [.ref 277] h (pR (some (.int (Int32.ofInt 2))) h) := by
  refine en_mk m_X12_thrown rfl hl (Nat.le_of_ble_eq_true rfl) ?_
  refine x_aload_n (M := M_X12_thrown) dX12_thrown_0 rfl ?_
  refine x_getf (M := M_X12_thrown) (ci := 15) (C := RX12) (T := TX12) (N := 135) (ty := tyX12) cl15 dX12_thrown_1 o3406 0 (by decide) t_2391 (v := .int (Int32.ofInt 2)) rfl ?_
  exact x_iret (M := M_X12_thrown) dX12_thrown_4 rfl ⟨rfl, rfl⟩ (Nat.le_of_ble_eq_true rfl) (Nat.le_of_ble_eq_true rfl)
set_option maxRecDepth 10000 in
theorem lc3_1 {l : Launch} {E : EE} (hl : l.stackTraces = false) (nm : String) {xs : Nat → Int32} (hx : E.2.2.2.2 0 = some (7, xs)) {h : HP} {a0 : Int32} {dg : Int32} (e2 : xs 2 = a0) (c0 : ¬ (a0.toInt < 0)) (c1 : a0.toInt < 32) (o3241 : ob h 32 = some (.inr (14, [.ref 33, .ref 162, .ref 166, .int (0 : Int32), .int (0 : Int32), .int (0 : Int32), .ref 167, .ref 170, .ref 173, .ref 177, .ref 193, .ref 208, .ref 222, .ref 238, .ref 252, .ref 274, .ref 275, .ref 276, .int (0 : Int32)]))) (o3242 : ob h 33 = some (.inl (4, 32, .inr (.inr (.inr (.inr (shf 1 32))))))) (o3243 : ob h 167 = some (.inr (12, [.int (dg &&& Int32.ofInt 3), .ref 166, .ref 168, .ref 169, .ref 162, .int (0 : Int32), .int (0 : Int32), .int (0 : Int32), .int (0 : Int32), .int (0 : Int32), .int (0 : Int32), .int (0 : Int32)]))) (o3244 : ob h (34 + 4 * a0.toNatClampNeg) = some (.inr (9, [.ref (35 + 4 * a0.toNatClampNeg), .ref (36 + 4 * a0.toNatClampNeg), .ref (37 + 4 * a0.toNatClampNeg), .int (0 : Int32), .int (0 : Int32)]))) (o3245 : ob h 166 = some (.inl (2, 65536, .inl (fun _ => 0)))) (o3394 : ob h 277 = some (.inr (15, (RB dg)))) (o3396 : ob h 280 = some (.inl (0, 33, .inl (fun _ => 0)))) (o3398 : ob h 282 = some (.inl (0, 33, .inl (fun _ => 0)))) : XX l E (M_law nm) 1312 342628 8074320 (fun o _ => o = .inl (some (.int 1))) 365 [some (.ref 0), some (.ref 32), some (.ref 277), some (.ref 359), some (.int (Int32.ofInt 1)), none, none, none] [] h 328 2463747 := by
  have n_a0 : a0.toNatClampNeg < 32 := nc_lt (by omega) (by decide)
  refine x_aload_n (M := (M_law nm)) dL_law_365 rfl ?_
  refine x_aload_n (M := (M_law nm)) dL_law_366 rfl ?_
  refine x_iload (M := (M_law nm)) dL_law_367 rfl ?_
  refine x_iconst (M := (M_law nm)) dL_law_369 ?_
  refine x_iadd (M := (M_law nm)) dL_law_370 ?_
  refine x_sald (M := (M_law nm)) dL_law_371 (by decide) hx (vp_inD (by decide +kernel)) ?_
  refine x_top (M := (M_law nm)) (y := a0) ((congrArg xs (by decide +kernel : ((Int32.ofInt 1) + (Int32.ofInt 1)).toNatClampNeg = 2)).trans e2) ?_
  refine x_aload_n (M := (M_law nm)) dL_law_372 rfl ?_
  refine y_callSW (M := (M_law nm)) (M' := M_L_readWords) rfl rfl dL_law_373 m_L_readWords t_736 t_737 (q3240 hl c0 c1 o3241 o3242 o3243 o3244 o3245) rfl rfl (Nat.le_of_ble_eq_true rfl) (Nat.le_of_ble_eq_true rfl) (Nat.le_of_ble_eq_true rfl) (Nat.le_of_ble_eq_true rfl) (fun h3246 f3247 w3248 => ?_)
  refine x_istore (M := (M_law nm)) dL_law_376 (Nat.le_of_ble_eq_true rfl) rfl ?_
  refine x_aload_n (M := (M_law nm)) dL_law_378 rfl ?_
  refine x_aload_n (M := (M_law nm)) dL_law_379 rfl ?_
  refine x_iload (M := (M_law nm)) dL_law_380 rfl ?_
  refine x_iconst (M := (M_law nm)) dL_law_382 ?_
  refine x_iadd (M := (M_law nm)) dL_law_383 ?_
  refine x_sald (M := (M_law nm)) dL_law_384 (by decide) hx (vp_inD (by decide +kernel)) ?_
  refine x_top (M := (M_law nm)) (y := a0) ((congrArg xs (by decide +kernel : ((Int32.ofInt 1) + (Int32.ofInt 1)).toNatClampNeg = 2)).trans e2) ?_
  have o3395 := (f3247 277 _ (by simp only [List.mem_cons, List.not_mem_nil, or_false, not_or]; omega) o3394)
  have o3397 := (f3247 280 _ (by simp only [List.mem_cons, List.not_mem_nil, or_false, not_or]; omega) o3396)
  have o3399 := (f3247 282 _ (by simp only [List.mem_cons, List.not_mem_nil, or_false, not_or]; omega) o3398)
  refine y_callVR (M := (M_law nm)) (M' := M_X12_readWords) rfl rfl dL_law_385 m_X12_readWords t_2833 t_2834 t_2835 (q3393 hl c0 c1 o3395 o3397 o3399) rfl rfl o3395 rfl (Nat.le_of_ble_eq_true rfl) (Nat.le_of_ble_eq_true rfl) (Nat.le_of_ble_eq_true rfl) (Nat.le_of_ble_eq_true rfl) (fun h3400 f3401 w3402 => ?_)
  obtain ⟨o3403, o3404, o3405, -⟩ := w3402
  refine x_istore (M := (M_law nm)) dL_law_388 (Nat.le_of_ble_eq_true rfl) rfl ?_
  refine x_aload_n (M := (M_law nm)) dL_law_390 rfl ?_
  refine x_callVR (M := (M_law nm)) (M' := M_X12_thrown) rfl rfl dL_law_391 m_X12_thrown t_2797 t_2798 t_2799 (q3407 hl o3403) rfl rfl o3403 rfl (Nat.le_of_ble_eq_true rfl) (Nat.le_of_ble_eq_true rfl) (Nat.le_of_ble_eq_true rfl) (Nat.le_of_ble_eq_true rfl) ?_
  refine x_iload (M := (M_law nm)) dL_law_394 rfl ?_
  refine x_icmp_eq (M := (M_law nm)) (tgt := 401) dL_law_396 (by decide) (fun _ => ?_) (fun q => absurd q (by decide +kernel))
  refine x_iload (M := (M_law nm)) dL_law_401 rfl ?_
  refine x_if_ne (M := (M_law nm)) (tgt := 418) dL_law_403 (by decide) (fun _ => ?_) (fun q => absurd q (by decide +kernel))
  refine x_goto (M := (M_law nm)) (tgt := 2449) dL_law_418 (by decide) ?_
  refine x_iinc (M := (M_law nm)) dL_law_2449 rfl (Nat.le_of_ble_eq_true rfl) rfl ?_
  refine x_lvs (M := (M_law nm)) (lv' := [some (.ref 0), some (.ref 32), some (.ref 277), some (.ref 359), some (.int (Int32.ofInt 7)), some (.int (Int32.ofInt 2)), some (.int (Int32.ofInt 0)), none]) (by rw [(by decide +kernel : (Int32.ofInt 1) + Int32.ofInt 6 = (Int32.ofInt 7))] <;> rfl) ?_
  refine x_goto (M := (M_law nm)) (tgt := 33) dL_law_2452 (by decide) ?_
  refine x_iload (M := (M_law nm)) dL_law_33 rfl ?_
  refine x_aload_n (M := (M_law nm)) dL_law_35 rfl ?_
  refine x_slen (M := (M_law nm)) dL_law_36 (by decide) hx ?_
  refine x_bipush (M := (M_law nm)) dL_law_37 ?_
  refine x_isub (M := (M_law nm)) dL_law_39 ?_
  refine x_icmp_gt (M := (M_law nm)) (tgt := 2455) dL_law_40 (by decide) (fun _ => ?_) (fun q => absurd q (by decide +kernel))
  refine x_iconst (M := (M_law nm)) dL_law_2455 ?_
  exact x_zret (M := (M_law nm)) dL_law_2456 rfl (by decide) rfl (Nat.le_of_ble_eq_true rfl) (Nat.le_of_ble_eq_true rfl)
set_option maxRecDepth 10000 in
theorem q3415 {l : Launch} {E : EE} (hl : l.stackTraces = false) {h : HP} {a0 : Int32} (c0 : ¬ (a0.toInt < 0)) (c1 : ¬ (a0.toInt < 32)) (o3408 : ob h 32 = some (.inr (14, [.ref 33, .ref 162, .ref 166, .int (0 : Int32), .int (0 : Int32), .int (0 : Int32), .ref 167, .ref 170, .ref 173, .ref 177, .ref 193, .ref 208, .ref 222, .ref 238, .ref 252, .ref 274, .ref 275, .ref 276, .int (0 : Int32)]))) : en_C l E M_X11_readWords 7 1 6 [.ref 32, .int a0] h (pT "java/lang/IndexOutOfBoundsException" [32] h (fun _ => True)) := by
  refine en_mk m_X11_readWords rfl hl (Nat.le_of_ble_eq_true rfl) ?_
  refine x_aload_n (M := M_X11_readWords) dX11_readWords_0 rfl ?_
  refine x_getf (M := M_X11_readWords) (ci := 14) (C := RX11) (T := TX11) (N := 19) (ty := tyX11) cl14 dX11_readWords_1 o3408 3 (by decide) t_566 (v := .int (0 : Int32)) rfl ?_
  refine x_top (M := M_X11_readWords) (y := (Int32.ofInt 0)) (by decide +kernel) ?_
  refine x_istore_n (M := M_X11_readWords) dX11_readWords_4 (Nat.le_of_ble_eq_true rfl) rfl ?_
  refine x_aload_n (M := M_X11_readWords) dX11_readWords_5 rfl ?_
  refine x_iconst (M := M_X11_readWords) dX11_readWords_6 ?_
  refine y_put (M := M_X11_readWords) (ci := 14) (C := RX11) (T := TX11) (N := 19) (ty := tyX11) cl14 dX11_readWords_7 o3408 3 (by decide) t_566 (Or.inl rfl) (Nat.le_of_ble_eq_true rfl) rfl (fun h3409 (w3410 : ob h3409 32 = some (.inr (14, [.ref 33, .ref 162, .ref 166, .int (Int32.ofInt 0), .int (0 : Int32), .int (0 : Int32), .ref 167, .ref 170, .ref 173, .ref 177, .ref 193, .ref 208, .ref 222, .ref 238, .ref 252, .ref 274, .ref 275, .ref 276, .int (0 : Int32)]))) f3411 => ?_)
  refine x_aload_n (M := M_X11_readWords) dX11_readWords_10 rfl ?_
  refine x_iload_n (M := M_X11_readWords) dX11_readWords_11 rfl ?_
  exact y_callVX (M := M_X11_readWords) (M' := M_X11_slotNumbered) rfl rfl dX11_readWords_12 m_X11_slotNumbered t_744 t_746 s_2 (q511 hl c0 c1) rfl rfl w3410 rfl (Nat.le_of_ble_eq_true rfl) (Nat.le_of_ble_eq_true rfl) (Nat.le_of_ble_eq_true rfl) (Nat.le_of_ble_eq_true rfl) (fun h3412 f3413 w3414 => ⟨rfl, (fr_tr f3413 (fun _ h => nomatch h) (fr_tr f3411 (by decide) fr_rf)), trivial⟩)
set_option maxRecDepth 10000 in
theorem q3420 {l : Launch} {E : EE} (hl : l.stackTraces = false) {h : HP} {a0 : Int32} (c0 : ¬ (a0.toInt < 0)) (c1 : ¬ (a0.toInt < 32)) (o3416 : ob h 32 = some (.inr (14, [.ref 33, .ref 162, .ref 166, .int (0 : Int32), .int (0 : Int32), .int (0 : Int32), .ref 167, .ref 170, .ref 173, .ref 177, .ref 193, .ref 208, .ref 222, .ref 238, .ref 252, .ref 274, .ref 275, .ref 276, .int (0 : Int32)]))) : en_C l E M_L_readWords 8 1 6 [.ref 32, .int a0, .ref 359] h (pF (some (.int (Int32.ofInt 1))) [32] h (fun _ => True)) := by
  refine en_mkW m_L_readWords rfl hl (Nat.le_of_ble_eq_true rfl) ?_
  refine x_aload_n (M := M_L_readWords) dL_readWords_0 rfl ?_
  refine x_iconst (M := M_L_readWords) dL_readWords_1 ?_
  refine x_aload_n (M := M_L_readWords) dL_readWords_2 rfl ?_
  refine x_iload_n (M := M_L_readWords) dL_readWords_3 rfl ?_
  refine y_callVHX (M := M_L_readWords) (M' := M_X11_readWords) (i9 := 3) (nx := 13) rfl dL_readWords_4 m_X11_readWords t_740 t_741 t_742 o3416 rfl (q3415 hl c0 c1 o3416) rfl rfl (Nat.le_of_ble_eq_true rfl) (Nat.le_of_ble_eq_true rfl) (Nat.le_of_ble_eq_true rfl) (Nat.le_of_ble_eq_true rfl) (en_hdn (k0 := 3) [] [(0, 9, 15, 19)] rfl (fun _ h => nomatch h) (by decide +kernel) (by decide) t_739 n_750 dL_readWords_12) (by decide) rfl (fun h3417 f3418 w3419 => ?_)
  refine x_iconst (M := M_L_readWords) dL_readWords_13 ?_
  exact x_iret (M := M_L_readWords) dL_readWords_14 rfl ⟨rfl, (fr_tr f3418 (by decide) fr_rf), trivial⟩ (Nat.le_of_ble_eq_true rfl) (Nat.le_of_ble_eq_true rfl)
set_option maxRecDepth 10000 in
theorem q3440 {l : Launch} {E : EE} (hl : l.stackTraces = false) {h : HP} {a0 : Int32} {dg : Int32} (c0 : ¬ (a0.toInt < 0)) (c1 : ¬ (a0.toInt < 32)) (o3425 : ob h 277 = some (.inr (15, (RB dg)))) : en_C l E M_X12_reads 1 0 0 [.ref 277, .int a0, .int (Int32.ofInt 1)] h (pF (some (.int (Int32.ofInt 0))) [277] h (fun h' => ob h' 277 = some (.inr (15, ((((RB dg).set 0 (.int (Int32.ofInt 1))).set 4 (.int (Int32.ofInt 0))).set 18 (.int (Int32.ofInt 0))))) ∧ True)) := by
  refine en_mk m_X12_reads rfl hl (Nat.le_of_ble_eq_true rfl) ?_
  refine x_aload_n (M := M_X12_reads) dX12_reads_0 rfl ?_
  refine x_iconst (M := M_X12_reads) dX12_reads_1 ?_
  refine y_put (M := M_X12_reads) (ci := 15) (C := RX12) (T := TX12) (N := 135) (ty := tyX12) cl15 dX12_reads_2 o3425 0 (by decide) t_2391 (Or.inl rfl) (Nat.le_of_ble_eq_true rfl) rfl (fun h3426 w3427 f3428 => ?_)
  refine x_aload_n (M := M_X12_reads) dX12_reads_5 rfl ?_
  refine x_aload_n (M := M_X12_reads) dX12_reads_6 rfl ?_
  refine x_getf (M := M_X12_reads) (ci := 15) (C := RX12) (T := TX12) (N := 135) (ty := tyX12) cl15 dX12_reads_7 w3427 4 (by decide) t_2395 (v := .int (0 : Int32)) rfl ?_
  refine x_top (M := M_X12_reads) (y := (Int32.ofInt 0)) (by decide +kernel) ?_
  refine y_put (M := M_X12_reads) (ci := 15) (C := RX12) (T := TX12) (N := 135) (ty := tyX12) cl15 dX12_reads_10 w3427 18 (by decide) t_2409 (Or.inl rfl) (Nat.le_of_ble_eq_true rfl) rfl (fun h3429 w3430 f3431 => ?_)
  refine x_aload_n (M := M_X12_reads) dX12_reads_13 rfl ?_
  refine x_iconst (M := M_X12_reads) dX12_reads_14 ?_
  refine y_put (M := M_X12_reads) (ci := 15) (C := RX12) (T := TX12) (N := 135) (ty := tyX12) cl15 dX12_reads_15 w3430 4 (by decide) t_2395 (Or.inl rfl) (Nat.le_of_ble_eq_true rfl) rfl (fun h3432 w3433 f3434 => ?_)
  have w3435 : ob h3432 277 = some (.inr (15, ((((RB dg).set 0 (.int (Int32.ofInt 0))).set 4 (.int (Int32.ofInt 0))).set 18 (.int (Int32.ofInt 0))))) := by rw [w3433, ls_sw (i := 18) (j := 4) (by decide)]
  refine x_aload_n (M := M_X12_reads) dX12_reads_18 rfl ?_
  refine x_iload_n (M := M_X12_reads) dX12_reads_19 rfl ?_
  refine x_callSR (M := M_X12_reads) (M' := M_X12_isSlot) rfl rfl dX12_reads_20 m_X12_isSlot t_2841 t_2842 (q530 hl c0 c1) rfl rfl (Nat.le_of_ble_eq_true rfl) (Nat.le_of_ble_eq_true rfl) (Nat.le_of_ble_eq_true rfl) (Nat.le_of_ble_eq_true rfl) ?_
  refine x_if_ne (M := M_X12_reads) (tgt := 30) dX12_reads_23 (by decide) (fun q => absurd q (by decide +kernel)) (fun _ => ?_)
  refine x_iconst (M := M_X12_reads) dX12_reads_26 ?_
  refine x_goto (M := M_X12_reads) (tgt := 31) dX12_reads_27 (by decide) ?_
  refine x_iconst (M := M_X12_reads) dX12_reads_31 ?_
  refine y_callVR (M := M_X12_reads) (M' := M_X12_fails) rfl rfl dX12_reads_32 m_X12_fails t_2805 t_2807 s_157 (q3096 hl w3435) rfl rfl w3435 rfl (Nat.le_of_ble_eq_true rfl) (Nat.le_of_ble_eq_true rfl) (Nat.le_of_ble_eq_true rfl) (Nat.le_of_ble_eq_true rfl) (fun h3436 f3437 w3438 => ?_)
  obtain ⟨o3439, -⟩ := w3438
  refine x_if_eq (M := M_X12_reads) (tgt := 40) dX12_reads_35 (by decide) (fun q => absurd q (by decide +kernel)) (fun _ => ?_)
  refine x_iconst (M := M_X12_reads) dX12_reads_38 ?_
  exact x_iret (M := M_X12_reads) dX12_reads_39 rfl ⟨rfl, (fr_tr f3437 (by decide) (fr_tr f3434 (by decide) (fr_tr f3431 (by decide) (fr_tr f3428 (by decide) fr_rf)))), ⟨o3439, trivial⟩⟩ (Nat.le_of_ble_eq_true rfl) (Nat.le_of_ble_eq_true rfl)
set_option maxRecDepth 10000 in
theorem q3446 {l : Launch} {E : EE} (hl : l.stackTraces = false) {h : HP} {a0 : Int32} {dg : Int32} (c0 : ¬ (a0.toInt < 0)) (c1 : ¬ (a0.toInt < 32)) (o3441 : ob h 277 = some (.inr (15, (RB dg)))) : en_C l E M_X12_readWords 2 0 0 [.ref 277, .int a0] h (pF (some (.int (Int32.ofInt 0))) [277] h (fun h' => ob h' 277 = some (.inr (15, ((((RB dg).set 0 (.int (Int32.ofInt 1))).set 4 (.int (Int32.ofInt 0))).set 18 (.int (Int32.ofInt 0))))) ∧ True)) := by
  refine en_mk m_X12_readWords rfl hl (Nat.le_of_ble_eq_true rfl) ?_
  refine x_aload_n (M := M_X12_readWords) dX12_readWords_0 rfl ?_
  refine x_iload_n (M := M_X12_readWords) dX12_readWords_1 rfl ?_
  refine x_iconst (M := M_X12_readWords) dX12_readWords_2 ?_
  refine y_callVR (M := M_X12_readWords) (M' := M_X12_reads) rfl rfl dX12_readWords_3 m_X12_reads t_2837 t_2839 s_159 (q3440 hl c0 c1 o3441) rfl rfl o3441 rfl (Nat.le_of_ble_eq_true rfl) (Nat.le_of_ble_eq_true rfl) (Nat.le_of_ble_eq_true rfl) (Nat.le_of_ble_eq_true rfl) (fun h3442 f3443 w3444 => ?_)
  obtain ⟨o3445, -⟩ := w3444
  exact x_iret (M := M_X12_readWords) dX12_readWords_6 rfl ⟨rfl, (fr_tr f3443 (by decide) fr_rf), ⟨o3445, trivial⟩⟩ (Nat.le_of_ble_eq_true rfl) (Nat.le_of_ble_eq_true rfl)
set_option maxRecDepth 10000 in
theorem lc3_2 {l : Launch} {E : EE} (hl : l.stackTraces = false) (nm : String) {xs : Nat → Int32} (hx : E.2.2.2.2 0 = some (7, xs)) {h : HP} {a0 : Int32} {dg : Int32} (e2 : xs 2 = a0) (c0 : ¬ (a0.toInt < 0)) (c1 : ¬ (a0.toInt < 32)) (o3421 : ob h 32 = some (.inr (14, [.ref 33, .ref 162, .ref 166, .int (0 : Int32), .int (0 : Int32), .int (0 : Int32), .ref 167, .ref 170, .ref 173, .ref 177, .ref 193, .ref 208, .ref 222, .ref 238, .ref 252, .ref 274, .ref 275, .ref 276, .int (0 : Int32)]))) (o3447 : ob h 277 = some (.inr (15, (RB dg)))) : XX l E (M_law nm) 1312 342628 8074320 (fun o _ => o = .inl (some (.int 1))) 365 [some (.ref 0), some (.ref 32), some (.ref 277), some (.ref 359), some (.int (Int32.ofInt 1)), none, none, none] [] h 328 2463747 := by
  refine x_aload_n (M := (M_law nm)) dL_law_365 rfl ?_
  refine x_aload_n (M := (M_law nm)) dL_law_366 rfl ?_
  refine x_iload (M := (M_law nm)) dL_law_367 rfl ?_
  refine x_iconst (M := (M_law nm)) dL_law_369 ?_
  refine x_iadd (M := (M_law nm)) dL_law_370 ?_
  refine x_sald (M := (M_law nm)) dL_law_371 (by decide) hx (vp_inD (by decide +kernel)) ?_
  refine x_top (M := (M_law nm)) (y := a0) ((congrArg xs (by decide +kernel : ((Int32.ofInt 1) + (Int32.ofInt 1)).toNatClampNeg = 2)).trans e2) ?_
  refine x_aload_n (M := (M_law nm)) dL_law_372 rfl ?_
  refine y_callSW (M := (M_law nm)) (M' := M_L_readWords) rfl rfl dL_law_373 m_L_readWords t_736 t_737 (q3420 hl c0 c1 o3421) rfl rfl (Nat.le_of_ble_eq_true rfl) (Nat.le_of_ble_eq_true rfl) (Nat.le_of_ble_eq_true rfl) (Nat.le_of_ble_eq_true rfl) (fun h3422 f3423 w3424 => ?_)
  refine x_istore (M := (M_law nm)) dL_law_376 (Nat.le_of_ble_eq_true rfl) rfl ?_
  refine x_aload_n (M := (M_law nm)) dL_law_378 rfl ?_
  refine x_aload_n (M := (M_law nm)) dL_law_379 rfl ?_
  refine x_iload (M := (M_law nm)) dL_law_380 rfl ?_
  refine x_iconst (M := (M_law nm)) dL_law_382 ?_
  refine x_iadd (M := (M_law nm)) dL_law_383 ?_
  refine x_sald (M := (M_law nm)) dL_law_384 (by decide) hx (vp_inD (by decide +kernel)) ?_
  refine x_top (M := (M_law nm)) (y := a0) ((congrArg xs (by decide +kernel : ((Int32.ofInt 1) + (Int32.ofInt 1)).toNatClampNeg = 2)).trans e2) ?_
  have o3448 := (f3423 277 _ (by decide) o3447)
  refine y_callVR (M := (M_law nm)) (M' := M_X12_readWords) rfl rfl dL_law_385 m_X12_readWords t_2833 t_2834 t_2835 (q3446 hl c0 c1 o3448) rfl rfl o3448 rfl (Nat.le_of_ble_eq_true rfl) (Nat.le_of_ble_eq_true rfl) (Nat.le_of_ble_eq_true rfl) (Nat.le_of_ble_eq_true rfl) (fun h3449 f3450 w3451 => ?_)
  obtain ⟨o3452, -⟩ := w3451
  refine x_istore (M := (M_law nm)) dL_law_388 (Nat.le_of_ble_eq_true rfl) rfl ?_
  refine x_aload_n (M := (M_law nm)) dL_law_390 rfl ?_
  refine x_callVR (M := (M_law nm)) (M' := M_X12_thrown) rfl rfl dL_law_391 m_X12_thrown t_2797 t_2798 t_2799 (q3115 hl o3452) rfl rfl o3452 rfl (Nat.le_of_ble_eq_true rfl) (Nat.le_of_ble_eq_true rfl) (Nat.le_of_ble_eq_true rfl) (Nat.le_of_ble_eq_true rfl) ?_
  refine x_iload (M := (M_law nm)) dL_law_394 rfl ?_
  refine x_icmp_eq (M := (M_law nm)) (tgt := 401) dL_law_396 (by decide) (fun _ => ?_) (fun q => absurd q (by decide +kernel))
  refine x_iload (M := (M_law nm)) dL_law_401 rfl ?_
  refine x_if_ne (M := (M_law nm)) (tgt := 418) dL_law_403 (by decide) (fun _ => ?_) (fun q => absurd q (by decide +kernel))
  refine x_goto (M := (M_law nm)) (tgt := 2449) dL_law_418 (by decide) ?_
  refine x_iinc (M := (M_law nm)) dL_law_2449 rfl (Nat.le_of_ble_eq_true rfl) rfl ?_
  refine x_lvs (M := (M_law nm)) (lv' := [some (.ref 0), some (.ref 32), some (.ref 277), some (.ref 359), some (.int (Int32.ofInt 7)), some (.int (Int32.ofInt 1)), some (.int (Int32.ofInt 0)), none]) (by rw [(by decide +kernel : (Int32.ofInt 1) + Int32.ofInt 6 = (Int32.ofInt 7))] <;> rfl) ?_
  refine x_goto (M := (M_law nm)) (tgt := 33) dL_law_2452 (by decide) ?_
  refine x_iload (M := (M_law nm)) dL_law_33 rfl ?_
  refine x_aload_n (M := (M_law nm)) dL_law_35 rfl ?_
  refine x_slen (M := (M_law nm)) dL_law_36 (by decide) hx ?_
  refine x_bipush (M := (M_law nm)) dL_law_37 ?_
  refine x_isub (M := (M_law nm)) dL_law_39 ?_
  refine x_icmp_gt (M := (M_law nm)) (tgt := 2455) dL_law_40 (by decide) (fun _ => ?_) (fun q => absurd q (by decide +kernel))
  refine x_iconst (M := (M_law nm)) dL_law_2455 ?_
  exact x_zret (M := (M_law nm)) dL_law_2456 rfl (by decide) rfl (Nat.le_of_ble_eq_true rfl) (Nat.le_of_ble_eq_true rfl)
theorem lop3 {l : Launch} {E : EE} (hl : l.stackTraces = false) (nm : String) {xs : Nat → Int32} (hx : E.2.2.2.2 0 = some (7, xs)) (dg : Int32) : XX l E (M_law nm) 1312 342628 8074320 (fun o _ => o = .inl (some (.int 1))) 365 [some (.ref 0), some (.ref 32), some (.ref 277), some (.ref 359), some (.int (Int32.ofInt 1)), none, none, none] [] (HH dg) 328 2463747 := by
  obtain ⟨a0, e2⟩ : ∃ a : Int32, xs 2 = a := ⟨_, rfl⟩
  obtain ⟨a1, e3⟩ : ∃ a : Int32, xs 3 = a := ⟨_, rfl⟩
  obtain ⟨a2, e4⟩ : ∃ a : Int32, xs 4 = a := ⟨_, rfl⟩
  obtain ⟨a3, e5⟩ : ∃ a : Int32, xs 5 = a := ⟨_, rfl⟩
  obtain ⟨a4, e6⟩ : ∃ a : Int32, xs 6 = a := ⟨_, rfl⟩
  by_cases c0 : a0.toInt < 0
  · exact lc3_0 hl nm hx e2 c0 (o_32 dg) (o_277b dg)
  · by_cases c1 : a0.toInt < 32
    · have n_a0 : a0.toNatClampNeg < 32 := nc_lt (by omega) (by decide)
      exact lc3_1 hl nm hx e2 c0 c1 (o_32 dg) (o_33 dg) (o_167 dg) (o_sh dg a0.toNatClampNeg n_a0) (o_166 dg) (o_277b dg) (oMR (dg := dg) (k := 2) rfl) (oMR (dg := dg) (k := 4) rfl)
    · exact lc3_2 hl nm hx e2 c0 c1 (o_32 dg) (o_277b dg)
set_option maxRecDepth 10000 in
theorem q3464 {l : Launch} {E : EE} (hl : l.stackTraces = false) {h : HP} {a0 : Int32} (c0 : a0.toInt < 0) (o3457 : ob h 32 = some (.inr (14, [.ref 33, .ref 162, .ref 166, .int (0 : Int32), .int (0 : Int32), .int (0 : Int32), .ref 167, .ref 170, .ref 173, .ref 177, .ref 193, .ref 208, .ref 222, .ref 238, .ref 252, .ref 274, .ref 275, .ref 276, .int (0 : Int32)]))) : en_C l E M_X11_readBytes 7 1 6 [.ref 32, .int a0] h (pT "java/lang/IndexOutOfBoundsException" [32] h (fun _ => True)) := by
  refine en_mk m_X11_readBytes rfl hl (Nat.le_of_ble_eq_true rfl) ?_
  refine x_aload_n (M := M_X11_readBytes) dX11_readBytes_0 rfl ?_
  refine x_getf (M := M_X11_readBytes) (ci := 14) (C := RX11) (T := TX11) (N := 19) (ty := tyX11) cl14 dX11_readBytes_1 o3457 3 (by decide) t_566 (v := .int (0 : Int32)) rfl ?_
  refine x_top (M := M_X11_readBytes) (y := (Int32.ofInt 0)) (by decide +kernel) ?_
  refine x_istore_n (M := M_X11_readBytes) dX11_readBytes_4 (Nat.le_of_ble_eq_true rfl) rfl ?_
  refine x_aload_n (M := M_X11_readBytes) dX11_readBytes_5 rfl ?_
  refine x_iconst (M := M_X11_readBytes) dX11_readBytes_6 ?_
  refine y_put (M := M_X11_readBytes) (ci := 14) (C := RX11) (T := TX11) (N := 19) (ty := tyX11) cl14 dX11_readBytes_7 o3457 3 (by decide) t_566 (Or.inl rfl) (Nat.le_of_ble_eq_true rfl) rfl (fun h3458 (w3459 : ob h3458 32 = some (.inr (14, [.ref 33, .ref 162, .ref 166, .int (Int32.ofInt 0), .int (0 : Int32), .int (0 : Int32), .ref 167, .ref 170, .ref 173, .ref 177, .ref 193, .ref 208, .ref 222, .ref 238, .ref 252, .ref 274, .ref 275, .ref 276, .int (0 : Int32)]))) f3460 => ?_)
  refine x_aload_n (M := M_X11_readBytes) dX11_readBytes_10 rfl ?_
  refine x_iload_n (M := M_X11_readBytes) dX11_readBytes_11 rfl ?_
  exact y_callVX (M := M_X11_readBytes) (M' := M_X11_slotNumbered) rfl rfl dX11_readBytes_12 m_X11_slotNumbered t_744 t_746 s_2 (q392 hl c0) rfl rfl w3459 rfl (Nat.le_of_ble_eq_true rfl) (Nat.le_of_ble_eq_true rfl) (Nat.le_of_ble_eq_true rfl) (Nat.le_of_ble_eq_true rfl) (fun h3461 f3462 w3463 => ⟨rfl, (fr_tr f3462 (fun _ h => nomatch h) (fr_tr f3460 (by decide) fr_rf)), trivial⟩)
set_option maxRecDepth 10000 in
theorem q3469 {l : Launch} {E : EE} (hl : l.stackTraces = false) {h : HP} {a0 : Int32} (c0 : a0.toInt < 0) (o3465 : ob h 32 = some (.inr (14, [.ref 33, .ref 162, .ref 166, .int (0 : Int32), .int (0 : Int32), .int (0 : Int32), .ref 167, .ref 170, .ref 173, .ref 177, .ref 193, .ref 208, .ref 222, .ref 238, .ref 252, .ref 274, .ref 275, .ref 276, .int (0 : Int32)]))) : en_C l E M_L_readBytes 8 1 6 [.ref 32, .int a0, .ref 359] h (pF (some (.int (Int32.ofInt 1))) [32] h (fun _ => True)) := by
  refine en_mkW m_L_readBytes rfl hl (Nat.le_of_ble_eq_true rfl) ?_
  refine x_aload_n (M := M_L_readBytes) dL_readBytes_0 rfl ?_
  refine x_iconst (M := M_L_readBytes) dL_readBytes_1 ?_
  refine x_aload_n (M := M_L_readBytes) dL_readBytes_2 rfl ?_
  refine x_iload_n (M := M_L_readBytes) dL_readBytes_3 rfl ?_
  refine y_callVHX (M := M_L_readBytes) (M' := M_X11_readBytes) (i9 := 3) (nx := 13) rfl dL_readBytes_4 m_X11_readBytes t_957 t_958 t_959 o3465 rfl (q3464 hl c0 o3465) rfl rfl (Nat.le_of_ble_eq_true rfl) (Nat.le_of_ble_eq_true rfl) (Nat.le_of_ble_eq_true rfl) (Nat.le_of_ble_eq_true rfl) (en_hdn (k0 := 3) [] [(0, 9, 15, 19)] rfl (fun _ h => nomatch h) (by decide +kernel) (by decide) t_739 n_750 dL_readBytes_12) (by decide) rfl (fun h3466 f3467 w3468 => ?_)
  refine x_iconst (M := M_L_readBytes) dL_readBytes_13 ?_
  exact x_iret (M := M_L_readBytes) dL_readBytes_14 rfl ⟨rfl, (fr_tr f3467 (by decide) fr_rf), trivial⟩ (Nat.le_of_ble_eq_true rfl) (Nat.le_of_ble_eq_true rfl)
set_option maxRecDepth 10000 in
theorem q3489 {l : Launch} {E : EE} (hl : l.stackTraces = false) {h : HP} {a0 : Int32} {dg : Int32} (c0 : a0.toInt < 0) (o3474 : ob h 277 = some (.inr (15, (RB dg)))) : en_C l E M_X12_reads 1 0 0 [.ref 277, .int a0, .int (Int32.ofInt 0)] h (pF (some (.int (Int32.ofInt 0))) [277] h (fun h' => ob h' 277 = some (.inr (15, ((((RB dg).set 0 (.int (Int32.ofInt 1))).set 4 (.int (Int32.ofInt 0))).set 18 (.int (Int32.ofInt 0))))) ∧ True)) := by
  refine en_mk m_X12_reads rfl hl (Nat.le_of_ble_eq_true rfl) ?_
  refine x_aload_n (M := M_X12_reads) dX12_reads_0 rfl ?_
  refine x_iconst (M := M_X12_reads) dX12_reads_1 ?_
  refine y_put (M := M_X12_reads) (ci := 15) (C := RX12) (T := TX12) (N := 135) (ty := tyX12) cl15 dX12_reads_2 o3474 0 (by decide) t_2391 (Or.inl rfl) (Nat.le_of_ble_eq_true rfl) rfl (fun h3475 w3476 f3477 => ?_)
  refine x_aload_n (M := M_X12_reads) dX12_reads_5 rfl ?_
  refine x_aload_n (M := M_X12_reads) dX12_reads_6 rfl ?_
  refine x_getf (M := M_X12_reads) (ci := 15) (C := RX12) (T := TX12) (N := 135) (ty := tyX12) cl15 dX12_reads_7 w3476 4 (by decide) t_2395 (v := .int (0 : Int32)) rfl ?_
  refine x_top (M := M_X12_reads) (y := (Int32.ofInt 0)) (by decide +kernel) ?_
  refine y_put (M := M_X12_reads) (ci := 15) (C := RX12) (T := TX12) (N := 135) (ty := tyX12) cl15 dX12_reads_10 w3476 18 (by decide) t_2409 (Or.inl rfl) (Nat.le_of_ble_eq_true rfl) rfl (fun h3478 w3479 f3480 => ?_)
  refine x_aload_n (M := M_X12_reads) dX12_reads_13 rfl ?_
  refine x_iconst (M := M_X12_reads) dX12_reads_14 ?_
  refine y_put (M := M_X12_reads) (ci := 15) (C := RX12) (T := TX12) (N := 135) (ty := tyX12) cl15 dX12_reads_15 w3479 4 (by decide) t_2395 (Or.inl rfl) (Nat.le_of_ble_eq_true rfl) rfl (fun h3481 w3482 f3483 => ?_)
  have w3484 : ob h3481 277 = some (.inr (15, ((((RB dg).set 0 (.int (Int32.ofInt 0))).set 4 (.int (Int32.ofInt 0))).set 18 (.int (Int32.ofInt 0))))) := by rw [w3482, ls_sw (i := 18) (j := 4) (by decide)]
  refine x_aload_n (M := M_X12_reads) dX12_reads_18 rfl ?_
  refine x_iload_n (M := M_X12_reads) dX12_reads_19 rfl ?_
  refine x_callSR (M := M_X12_reads) (M' := M_X12_isSlot) rfl rfl dX12_reads_20 m_X12_isSlot t_2841 t_2842 (q411 hl c0) rfl rfl (Nat.le_of_ble_eq_true rfl) (Nat.le_of_ble_eq_true rfl) (Nat.le_of_ble_eq_true rfl) (Nat.le_of_ble_eq_true rfl) ?_
  refine x_if_ne (M := M_X12_reads) (tgt := 30) dX12_reads_23 (by decide) (fun q => absurd q (by decide +kernel)) (fun _ => ?_)
  refine x_iconst (M := M_X12_reads) dX12_reads_26 ?_
  refine x_goto (M := M_X12_reads) (tgt := 31) dX12_reads_27 (by decide) ?_
  refine x_iconst (M := M_X12_reads) dX12_reads_31 ?_
  refine y_callVR (M := M_X12_reads) (M' := M_X12_fails) rfl rfl dX12_reads_32 m_X12_fails t_2805 t_2807 s_157 (q3096 hl w3484) rfl rfl w3484 rfl (Nat.le_of_ble_eq_true rfl) (Nat.le_of_ble_eq_true rfl) (Nat.le_of_ble_eq_true rfl) (Nat.le_of_ble_eq_true rfl) (fun h3485 f3486 w3487 => ?_)
  obtain ⟨o3488, -⟩ := w3487
  refine x_if_eq (M := M_X12_reads) (tgt := 40) dX12_reads_35 (by decide) (fun q => absurd q (by decide +kernel)) (fun _ => ?_)
  refine x_iconst (M := M_X12_reads) dX12_reads_38 ?_
  exact x_iret (M := M_X12_reads) dX12_reads_39 rfl ⟨rfl, (fr_tr f3486 (by decide) (fr_tr f3483 (by decide) (fr_tr f3480 (by decide) (fr_tr f3477 (by decide) fr_rf)))), ⟨o3488, trivial⟩⟩ (Nat.le_of_ble_eq_true rfl) (Nat.le_of_ble_eq_true rfl)
set_option maxRecDepth 10000 in
theorem q3495 {l : Launch} {E : EE} (hl : l.stackTraces = false) {h : HP} {a0 : Int32} {dg : Int32} (c0 : a0.toInt < 0) (o3490 : ob h 277 = some (.inr (15, (RB dg)))) : en_C l E M_X12_readBytes 2 0 0 [.ref 277, .int a0] h (pF (some (.int (Int32.ofInt 0))) [277] h (fun h' => ob h' 277 = some (.inr (15, ((((RB dg).set 0 (.int (Int32.ofInt 1))).set 4 (.int (Int32.ofInt 0))).set 18 (.int (Int32.ofInt 0))))) ∧ True)) := by
  refine en_mk m_X12_readBytes rfl hl (Nat.le_of_ble_eq_true rfl) ?_
  refine x_aload_n (M := M_X12_readBytes) dX12_readBytes_0 rfl ?_
  refine x_iload_n (M := M_X12_readBytes) dX12_readBytes_1 rfl ?_
  refine x_iconst (M := M_X12_readBytes) dX12_readBytes_2 ?_
  refine y_callVR (M := M_X12_readBytes) (M' := M_X12_reads) rfl rfl dX12_readBytes_3 m_X12_reads t_2837 t_2839 s_159 (q3489 hl c0 o3490) rfl rfl o3490 rfl (Nat.le_of_ble_eq_true rfl) (Nat.le_of_ble_eq_true rfl) (Nat.le_of_ble_eq_true rfl) (Nat.le_of_ble_eq_true rfl) (fun h3491 f3492 w3493 => ?_)
  obtain ⟨o3494, -⟩ := w3493
  exact x_iret (M := M_X12_readBytes) dX12_readBytes_6 rfl ⟨rfl, (fr_tr f3492 (by decide) fr_rf), ⟨o3494, trivial⟩⟩ (Nat.le_of_ble_eq_true rfl) (Nat.le_of_ble_eq_true rfl)
set_option maxRecDepth 10000 in
theorem lc4_0 {l : Launch} {E : EE} (hl : l.stackTraces = false) (nm : String) {xs : Nat → Int32} (hx : E.2.2.2.2 0 = some (7, xs)) {h : HP} {a0 : Int32} {dg : Int32} (e2 : xs 2 = a0) (c0 : a0.toInt < 0) (o3470 : ob h 32 = some (.inr (14, [.ref 33, .ref 162, .ref 166, .int (0 : Int32), .int (0 : Int32), .int (0 : Int32), .ref 167, .ref 170, .ref 173, .ref 177, .ref 193, .ref 208, .ref 222, .ref 238, .ref 252, .ref 274, .ref 275, .ref 276, .int (0 : Int32)]))) (o3496 : ob h 277 = some (.inr (15, (RB dg)))) : XX l E (M_law nm) 1312 342628 8074320 (fun o _ => o = .inl (some (.int 1))) 421 [some (.ref 0), some (.ref 32), some (.ref 277), some (.ref 359), some (.int (Int32.ofInt 1)), none, none, none] [] h 328 2463747 := by
  refine x_aload_n (M := (M_law nm)) dL_law_421 rfl ?_
  refine x_aload_n (M := (M_law nm)) dL_law_422 rfl ?_
  refine x_iload (M := (M_law nm)) dL_law_423 rfl ?_
  refine x_iconst (M := (M_law nm)) dL_law_425 ?_
  refine x_iadd (M := (M_law nm)) dL_law_426 ?_
  refine x_sald (M := (M_law nm)) dL_law_427 (by decide) hx (vp_inD (by decide +kernel)) ?_
  refine x_top (M := (M_law nm)) (y := a0) ((congrArg xs (by decide +kernel : ((Int32.ofInt 1) + (Int32.ofInt 1)).toNatClampNeg = 2)).trans e2) ?_
  refine x_aload_n (M := (M_law nm)) dL_law_428 rfl ?_
  refine y_callSW (M := (M_law nm)) (M' := M_L_readBytes) rfl rfl dL_law_429 m_L_readBytes t_954 t_955 (q3469 hl c0 o3470) rfl rfl (Nat.le_of_ble_eq_true rfl) (Nat.le_of_ble_eq_true rfl) (Nat.le_of_ble_eq_true rfl) (Nat.le_of_ble_eq_true rfl) (fun h3471 f3472 w3473 => ?_)
  refine x_istore (M := (M_law nm)) dL_law_432 (Nat.le_of_ble_eq_true rfl) rfl ?_
  refine x_aload_n (M := (M_law nm)) dL_law_434 rfl ?_
  refine x_aload_n (M := (M_law nm)) dL_law_435 rfl ?_
  refine x_iload (M := (M_law nm)) dL_law_436 rfl ?_
  refine x_iconst (M := (M_law nm)) dL_law_438 ?_
  refine x_iadd (M := (M_law nm)) dL_law_439 ?_
  refine x_sald (M := (M_law nm)) dL_law_440 (by decide) hx (vp_inD (by decide +kernel)) ?_
  refine x_top (M := (M_law nm)) (y := a0) ((congrArg xs (by decide +kernel : ((Int32.ofInt 1) + (Int32.ofInt 1)).toNatClampNeg = 2)).trans e2) ?_
  have o3497 := (f3472 277 _ (by decide) o3496)
  refine y_callVR (M := (M_law nm)) (M' := M_X12_readBytes) rfl rfl dL_law_441 m_X12_readBytes t_3025 t_3026 t_3027 (q3495 hl c0 o3497) rfl rfl o3497 rfl (Nat.le_of_ble_eq_true rfl) (Nat.le_of_ble_eq_true rfl) (Nat.le_of_ble_eq_true rfl) (Nat.le_of_ble_eq_true rfl) (fun h3498 f3499 w3500 => ?_)
  obtain ⟨o3501, -⟩ := w3500
  refine x_istore (M := (M_law nm)) dL_law_444 (Nat.le_of_ble_eq_true rfl) rfl ?_
  refine x_aload_n (M := (M_law nm)) dL_law_446 rfl ?_
  refine x_callVR (M := (M_law nm)) (M' := M_X12_thrown) rfl rfl dL_law_447 m_X12_thrown t_2797 t_2798 t_2799 (q3115 hl o3501) rfl rfl o3501 rfl (Nat.le_of_ble_eq_true rfl) (Nat.le_of_ble_eq_true rfl) (Nat.le_of_ble_eq_true rfl) (Nat.le_of_ble_eq_true rfl) ?_
  refine x_iload (M := (M_law nm)) dL_law_450 rfl ?_
  refine x_icmp_eq (M := (M_law nm)) (tgt := 457) dL_law_452 (by decide) (fun _ => ?_) (fun q => absurd q (by decide +kernel))
  refine x_iload (M := (M_law nm)) dL_law_457 rfl ?_
  refine x_if_ne (M := (M_law nm)) (tgt := 474) dL_law_459 (by decide) (fun _ => ?_) (fun q => absurd q (by decide +kernel))
  refine x_goto (M := (M_law nm)) (tgt := 2449) dL_law_474 (by decide) ?_
  refine x_iinc (M := (M_law nm)) dL_law_2449 rfl (Nat.le_of_ble_eq_true rfl) rfl ?_
  refine x_lvs (M := (M_law nm)) (lv' := [some (.ref 0), some (.ref 32), some (.ref 277), some (.ref 359), some (.int (Int32.ofInt 7)), some (.int (Int32.ofInt 1)), some (.int (Int32.ofInt 0)), none]) (by rw [(by decide +kernel : (Int32.ofInt 1) + Int32.ofInt 6 = (Int32.ofInt 7))] <;> rfl) ?_
  refine x_goto (M := (M_law nm)) (tgt := 33) dL_law_2452 (by decide) ?_
  refine x_iload (M := (M_law nm)) dL_law_33 rfl ?_
  refine x_aload_n (M := (M_law nm)) dL_law_35 rfl ?_
  refine x_slen (M := (M_law nm)) dL_law_36 (by decide) hx ?_
  refine x_bipush (M := (M_law nm)) dL_law_37 ?_
  refine x_isub (M := (M_law nm)) dL_law_39 ?_
  refine x_icmp_gt (M := (M_law nm)) (tgt := 2455) dL_law_40 (by decide) (fun _ => ?_) (fun q => absurd q (by decide +kernel))
  refine x_iconst (M := (M_law nm)) dL_law_2455 ?_
  exact x_zret (M := (M_law nm)) dL_law_2456 rfl (by decide) rfl (Nat.le_of_ble_eq_true rfl) (Nat.le_of_ble_eq_true rfl)
set_option maxRecDepth 10000 in
theorem q3544 {l : Launch} {E : EE} (hl : l.stackTraces = false) {h : HP} {a0 : Int32} {dg : Int32} (c0 : ¬ (a0.toInt < 0)) (c1 : a0.toInt < 32) (o3543 : ob h 170 = some (.inr (3, [.int (dg &&& Int32.ofInt 3), .ref 166, .ref 171, .ref 172, .ref (34 + 4 * a0.toNatClampNeg), .int (Int32.ofInt 0), .int (Int32.ofInt 0), .int (Int32.ofInt 0), .int (Int32.ofInt 0), .int (0 : Int32), .int (0 : Int32), .int (Int32.ofInt 0), .int (Int32.ofInt 0)]))) : en_C l E M_X0_has 0 0 0 [.ref 170, .int (Int32.ofInt 1)] h (pR (some (.int (Int32.ofInt 0))) h) := by
  refine en_mk m_X0_has rfl hl (Nat.le_of_ble_eq_true rfl) ?_
  refine x_aload_n (M := M_X0_has) dX0_has_0 rfl ?_
  refine x_getf (M := M_X0_has) (ci := 3) (C := RX0) (T := TX0) (N := 13) (ty := tyX0) cl3 dX0_has_1 o3543 5 (by decide) t_156 (v := .int (Int32.ofInt 0)) rfl ?_
  refine x_aload_n (M := M_X0_has) dX0_has_4 rfl ?_
  refine x_getf (M := M_X0_has) (ci := 3) (C := RX0) (T := TX0) (N := 13) (ty := tyX0) cl3 dX0_has_5 o3543 6 (by decide) t_157 (v := .int (Int32.ofInt 0)) rfl ?_
  refine x_isub (M := M_X0_has) dX0_has_8 ?_
  refine x_iload_n (M := M_X0_has) dX0_has_9 rfl ?_
  refine x_icmp_lt (M := M_X0_has) (tgt := 17) dX0_has_10 (by decide) (fun _ => ?_) (fun q => absurd q (by decide +kernel))
  refine x_iconst (M := M_X0_has) dX0_has_17 ?_
  exact x_zret (M := M_X0_has) dX0_has_18 rfl (by decide) ⟨rfl, rfl⟩ (Nat.le_of_ble_eq_true rfl) (Nat.le_of_ble_eq_true rfl)
set_option maxRecDepth 10000 in
theorem q3553 {l : Launch} {E : EE} (hl : l.stackTraces = false) {h : HP} {a0 : Int32} {dg : Int32} (c0 : ¬ (a0.toInt < 0)) (c1 : a0.toInt < 32) (o3546 : ob h 170 = some (.inr (3, [.int (dg &&& Int32.ofInt 3), .ref 166, .ref 171, .ref 172, .ref (34 + 4 * a0.toNatClampNeg), .int (Int32.ofInt 0), .int (Int32.ofInt 0), .int (Int32.ofInt 0), .int (Int32.ofInt 0), .int (0 : Int32), .int (0 : Int32), .int (Int32.ofInt 0), .int (Int32.ofInt 0)]))) : en_C l E M_X0_fail 0 0 0 [.ref 170, .int (Int32.ofInt 3)] h (pF (some (.int (Int32.ofInt 0))) [170] h (fun h' => ob h' 170 = some (.inr (3, [.int (dg &&& Int32.ofInt 3), .ref 166, .ref 171, .ref 172, .ref (34 + 4 * a0.toNatClampNeg), .int (Int32.ofInt 0), .int (Int32.ofInt 0), .int (Int32.ofInt 0), .int (Int32.ofInt 0), .int (0 : Int32), .int (0 : Int32), .int (Int32.ofInt 3), .int (Int32.ofInt 0)])) ∧ True)) := by
  refine en_mk m_X0_fail rfl hl (Nat.le_of_ble_eq_true rfl) ?_
  refine x_aload_n (M := M_X0_fail) dX0_fail_0 rfl ?_
  refine x_iload_n (M := M_X0_fail) dX0_fail_1 rfl ?_
  refine y_put (M := M_X0_fail) (ci := 3) (C := RX0) (T := TX0) (N := 13) (ty := tyX0) cl3 dX0_fail_2 o3546 11 (by decide) t_162 (Or.inl rfl) (Nat.le_of_ble_eq_true rfl) rfl (fun h3547 (w3548 : ob h3547 170 = some (.inr (3, [.int (dg &&& Int32.ofInt 3), .ref 166, .ref 171, .ref 172, .ref (34 + 4 * a0.toNatClampNeg), .int (Int32.ofInt 0), .int (Int32.ofInt 0), .int (Int32.ofInt 0), .int (Int32.ofInt 0), .int (0 : Int32), .int (0 : Int32), .int (Int32.ofInt 3), .int (Int32.ofInt 0)]))) f3549 => ?_)
  refine x_aload_n (M := M_X0_fail) dX0_fail_5 rfl ?_
  refine x_aload_n (M := M_X0_fail) dX0_fail_6 rfl ?_
  refine x_getf (M := M_X0_fail) (ci := 3) (C := RX0) (T := TX0) (N := 13) (ty := tyX0) cl3 dX0_fail_7 w3548 6 (by decide) t_157 (v := .int (Int32.ofInt 0)) rfl ?_
  refine y_put (M := M_X0_fail) (ci := 3) (C := RX0) (T := TX0) (N := 13) (ty := tyX0) cl3 dX0_fail_10 w3548 12 (by decide) t_164 (Or.inl rfl) (Nat.le_of_ble_eq_true rfl) rfl (fun h3550 (w3551 : ob h3550 170 = some (.inr (3, [.int (dg &&& Int32.ofInt 3), .ref 166, .ref 171, .ref 172, .ref (34 + 4 * a0.toNatClampNeg), .int (Int32.ofInt 0), .int (Int32.ofInt 0), .int (Int32.ofInt 0), .int (Int32.ofInt 0), .int (0 : Int32), .int (0 : Int32), .int (Int32.ofInt 3), .int (Int32.ofInt 0)]))) f3552 => ?_)
  refine x_iconst (M := M_X0_fail) dX0_fail_13 ?_
  exact x_zret (M := M_X0_fail) dX0_fail_14 rfl (by decide) ⟨rfl, (fr_tr f3552 (by decide) (fr_tr f3549 (by decide) fr_rf)), ⟨w3551, trivial⟩⟩ (Nat.le_of_ble_eq_true rfl) (Nat.le_of_ble_eq_true rfl)
set_option maxRecDepth 10000 in
theorem q3558 {l : Launch} {E : EE} (hl : l.stackTraces = false) {h : HP} {a0 : Int32} {dg : Int32} (c0 : ¬ (a0.toInt < 0)) (c1 : a0.toInt < 32) (o3545 : ob h 170 = some (.inr (3, [.int (dg &&& Int32.ofInt 3), .ref 166, .ref 171, .ref 172, .ref (34 + 4 * a0.toNatClampNeg), .int (Int32.ofInt 0), .int (Int32.ofInt 0), .int (Int32.ofInt 0), .int (Int32.ofInt 0), .int (0 : Int32), .int (0 : Int32), .int (Int32.ofInt 0), .int (Int32.ofInt 0)]))) : en_C l E M_X0_readShape 1 0 0 [.ref 170, .int (Int32.ofInt 0)] h (pF (some (.int (Int32.ofInt 0))) [170] h (fun h' => ob h' 170 = some (.inr (3, [.int (dg &&& Int32.ofInt 3), .ref 166, .ref 171, .ref 172, .ref (34 + 4 * a0.toNatClampNeg), .int (Int32.ofInt 0), .int (Int32.ofInt 0), .int (Int32.ofInt 0), .int (Int32.ofInt 0), .int (0 : Int32), .int (0 : Int32), .int (Int32.ofInt 3), .int (Int32.ofInt 0)])) ∧ True)) := by
  refine en_mk m_X0_readShape rfl hl (Nat.le_of_ble_eq_true rfl) ?_
  refine x_aload_n (M := M_X0_readShape) dX0_readShape_0 rfl ?_
  refine x_iconst (M := M_X0_readShape) dX0_readShape_1 ?_
  refine x_callVR (M := M_X0_readShape) (M' := M_X0_has) rfl rfl dX0_readShape_2 m_X0_has t_971 t_973 s_24 (q3544 hl c0 c1 o3545) rfl rfl o3545 rfl (Nat.le_of_ble_eq_true rfl) (Nat.le_of_ble_eq_true rfl) (Nat.le_of_ble_eq_true rfl) (Nat.le_of_ble_eq_true rfl) ?_
  refine x_if_ne (M := M_X0_readShape) (tgt := 14) dX0_readShape_5 (by decide) (fun q => absurd q (by decide +kernel)) (fun _ => ?_)
  refine x_aload_n (M := M_X0_readShape) dX0_readShape_8 rfl ?_
  refine x_iconst (M := M_X0_readShape) dX0_readShape_9 ?_
  refine y_callVR (M := M_X0_readShape) (M' := M_X0_fail) rfl rfl dX0_readShape_10 m_X0_fail t_975 t_977 s_25 (q3553 hl c0 c1 o3545) rfl rfl o3545 rfl (Nat.le_of_ble_eq_true rfl) (Nat.le_of_ble_eq_true rfl) (Nat.le_of_ble_eq_true rfl) (Nat.le_of_ble_eq_true rfl) (fun h3554 f3555 w3556 => ?_)
  obtain ⟨o3557, -⟩ := w3556
  exact x_zret (M := M_X0_readShape) dX0_readShape_13 rfl (by decide) ⟨rfl, (fr_tr f3555 (by decide) fr_rf), ⟨o3557, trivial⟩⟩ (Nat.le_of_ble_eq_true rfl) (Nat.le_of_ble_eq_true rfl)
set_option maxRecDepth 10000 in
theorem q3564 {l : Launch} {E : EE} (hl : l.stackTraces = false) {h : HP} {a0 : Int32} {dg : Int32} (c0 : ¬ (a0.toInt < 0)) (c1 : a0.toInt < 32) (o3512 : ob h 170 = some (.inr (3, [.int (dg &&& Int32.ofInt 3), .ref 166, .ref 171, .ref 172, .ref 162, .int (0 : Int32), .int (0 : Int32), .int (0 : Int32), .int (0 : Int32), .int (0 : Int32), .int (0 : Int32), .int (0 : Int32), .int (0 : Int32)]))) (o3516 : ob h (34 + 4 * a0.toNatClampNeg) = some (.inr (9, [.ref (35 + 4 * a0.toNatClampNeg), .ref (36 + 4 * a0.toNatClampNeg), .ref (37 + 4 * a0.toNatClampNeg), .int (0 : Int32), .int (0 : Int32)]))) (o3523 : ob h 166 = some (.inl (2, 65536, .inl (fun _ => 0)))) : en_C l E M_X0_readInto 2 0 0 [.ref 170, .ref (34 + 4 * a0.toNatClampNeg), .int (Int32.ofInt 0)] h (pF (some (.int (Int32.ofInt 0))) [170, (34 + 4 * a0.toNatClampNeg)] h (fun h' => ob h' 170 = some (.inr (3, [.int (dg &&& Int32.ofInt 3), .ref 166, .ref 171, .ref 172, .ref (34 + 4 * a0.toNatClampNeg), .int (Int32.ofInt 0), .int (Int32.ofInt 0), .int (Int32.ofInt 0), .int (Int32.ofInt 0), .int (0 : Int32), .int (0 : Int32), .int (Int32.ofInt 3), .int (Int32.ofInt 0)])) ∧ ob h' (34 + 4 * a0.toNatClampNeg) = some (.inr (9, [.ref (35 + 4 * a0.toNatClampNeg), .ref (36 + 4 * a0.toNatClampNeg), .ref (37 + 4 * a0.toNatClampNeg), .int (Int32.ofInt 0), .int (Int32.ofInt 0)])) ∧ True)) := by
  have n_a0 : a0.toNatClampNeg < 32 := nc_lt (by omega) (by decide)
  refine en_mk m_X0_readInto rfl hl (Nat.le_of_ble_eq_true rfl) ?_
  refine x_aload_n (M := M_X0_readInto) dX0_readInto_0 rfl ?_
  refine x_aload_n (M := M_X0_readInto) dX0_readInto_1 rfl ?_
  refine y_put (M := M_X0_readInto) (ci := 3) (C := RX0) (T := TX0) (N := 13) (ty := tyX0) cl3 dX0_readInto_2 o3512 4 (by decide) t_155 (Or.inl rfl) (Nat.le_of_ble_eq_true rfl) rfl (fun h3513 (w3514 : ob h3513 170 = some (.inr (3, [.int (dg &&& Int32.ofInt 3), .ref 166, .ref 171, .ref 172, .ref (34 + 4 * a0.toNatClampNeg), .int (0 : Int32), .int (0 : Int32), .int (0 : Int32), .int (0 : Int32), .int (0 : Int32), .int (0 : Int32), .int (0 : Int32), .int (0 : Int32)]))) f3515 => ?_)
  refine x_aload_n (M := M_X0_readInto) dX0_readInto_5 rfl ?_
  refine x_getf (M := M_X0_readInto) (ci := 3) (C := RX0) (T := TX0) (N := 13) (ty := tyX0) cl3 dX0_readInto_6 w3514 4 (by decide) t_155 (v := .ref (34 + 4 * a0.toNatClampNeg)) rfl ?_
  have o3517 := (f3515 (34 + 4 * a0.toNatClampNeg) _ (by simp only [List.mem_cons, List.not_mem_nil, or_false, not_or]; omega) o3516)
  refine y_callVR (M := M_X0_readInto) (M' := M_X6_clear) rfl rfl dX0_readInto_9 m_X6_clear t_965 t_768 t_769 (q1327 hl c0 c1 o3517) rfl rfl o3517 rfl (Nat.le_of_ble_eq_true rfl) (Nat.le_of_ble_eq_true rfl) (Nat.le_of_ble_eq_true rfl) (Nat.le_of_ble_eq_true rfl) (fun h3518 f3519 w3520 => ?_)
  obtain ⟨o3521, -⟩ := w3520
  refine x_aload_n (M := M_X0_readInto) dX0_readInto_12 rfl ?_
  refine x_iload_n (M := M_X0_readInto) dX0_readInto_13 rfl ?_
  refine x_aload_n (M := M_X0_readInto) dX0_readInto_14 rfl ?_
  have o3522 := (f3519 170 _ (by simp only [List.mem_cons, List.not_mem_nil, or_false, not_or]; omega) w3514)
  refine x_getf (M := M_X0_readInto) (ci := 3) (C := RX0) (T := TX0) (N := 13) (ty := tyX0) cl3 dX0_readInto_15 o3522 1 (by decide) t_152 (v := .ref 166) rfl ?_
  have o3524 := (f3519 166 _ (by simp only [List.mem_cons, List.not_mem_nil, or_false, not_or]; omega) (f3515 166 _ (by decide) o3523))
  refine x_alen (M := M_X0_readInto) dX0_readInto_18 o3524 (by decide) ?_
  refine x_mmin (M := M_X0_readInto) dX0_readInto_19 t_966 t_626 t_20 t_627 (Nat.le_of_ble_eq_true rfl) (Nat.le_of_ble_eq_true rfl) (Nat.le_of_ble_eq_true rfl) (Nat.le_of_ble_eq_true rfl) ?_
  refine x_top (M := M_X0_readInto) (y := (Int32.ofInt 0)) (by decide +kernel) ?_
  refine y_put (M := M_X0_readInto) (ci := 3) (C := RX0) (T := TX0) (N := 13) (ty := tyX0) cl3 dX0_readInto_22 o3522 5 (by decide) t_156 (Or.inl rfl) (Nat.le_of_ble_eq_true rfl) rfl (fun h3525 (w3526 : ob h3525 170 = some (.inr (3, [.int (dg &&& Int32.ofInt 3), .ref 166, .ref 171, .ref 172, .ref (34 + 4 * a0.toNatClampNeg), .int (Int32.ofInt 0), .int (0 : Int32), .int (0 : Int32), .int (0 : Int32), .int (0 : Int32), .int (0 : Int32), .int (0 : Int32), .int (0 : Int32)]))) f3527 => ?_)
  refine x_aload_n (M := M_X0_readInto) dX0_readInto_25 rfl ?_
  refine x_iconst (M := M_X0_readInto) dX0_readInto_26 ?_
  refine y_put (M := M_X0_readInto) (ci := 3) (C := RX0) (T := TX0) (N := 13) (ty := tyX0) cl3 dX0_readInto_27 w3526 6 (by decide) t_157 (Or.inl rfl) (Nat.le_of_ble_eq_true rfl) rfl (fun h3528 (w3529 : ob h3528 170 = some (.inr (3, [.int (dg &&& Int32.ofInt 3), .ref 166, .ref 171, .ref 172, .ref (34 + 4 * a0.toNatClampNeg), .int (Int32.ofInt 0), .int (Int32.ofInt 0), .int (0 : Int32), .int (0 : Int32), .int (0 : Int32), .int (0 : Int32), .int (0 : Int32), .int (0 : Int32)]))) f3530 => ?_)
  refine x_aload_n (M := M_X0_readInto) dX0_readInto_30 rfl ?_
  refine x_iconst (M := M_X0_readInto) dX0_readInto_31 ?_
  refine y_put (M := M_X0_readInto) (ci := 3) (C := RX0) (T := TX0) (N := 13) (ty := tyX0) cl3 dX0_readInto_32 w3529 7 (by decide) t_158 (Or.inl rfl) (Nat.le_of_ble_eq_true rfl) rfl (fun h3531 (w3532 : ob h3531 170 = some (.inr (3, [.int (dg &&& Int32.ofInt 3), .ref 166, .ref 171, .ref 172, .ref (34 + 4 * a0.toNatClampNeg), .int (Int32.ofInt 0), .int (Int32.ofInt 0), .int (Int32.ofInt 0), .int (0 : Int32), .int (0 : Int32), .int (0 : Int32), .int (0 : Int32), .int (0 : Int32)]))) f3533 => ?_)
  refine x_aload_n (M := M_X0_readInto) dX0_readInto_35 rfl ?_
  refine x_iconst (M := M_X0_readInto) dX0_readInto_36 ?_
  refine y_put (M := M_X0_readInto) (ci := 3) (C := RX0) (T := TX0) (N := 13) (ty := tyX0) cl3 dX0_readInto_37 w3532 8 (by decide) t_159 (Or.inl rfl) (Nat.le_of_ble_eq_true rfl) rfl (fun h3534 (w3535 : ob h3534 170 = some (.inr (3, [.int (dg &&& Int32.ofInt 3), .ref 166, .ref 171, .ref 172, .ref (34 + 4 * a0.toNatClampNeg), .int (Int32.ofInt 0), .int (Int32.ofInt 0), .int (Int32.ofInt 0), .int (Int32.ofInt 0), .int (0 : Int32), .int (0 : Int32), .int (0 : Int32), .int (0 : Int32)]))) f3536 => ?_)
  refine x_aload_n (M := M_X0_readInto) dX0_readInto_40 rfl ?_
  refine x_iconst (M := M_X0_readInto) dX0_readInto_41 ?_
  refine y_put (M := M_X0_readInto) (ci := 3) (C := RX0) (T := TX0) (N := 13) (ty := tyX0) cl3 dX0_readInto_42 w3535 11 (by decide) t_162 (Or.inl rfl) (Nat.le_of_ble_eq_true rfl) rfl (fun h3537 (w3538 : ob h3537 170 = some (.inr (3, [.int (dg &&& Int32.ofInt 3), .ref 166, .ref 171, .ref 172, .ref (34 + 4 * a0.toNatClampNeg), .int (Int32.ofInt 0), .int (Int32.ofInt 0), .int (Int32.ofInt 0), .int (Int32.ofInt 0), .int (0 : Int32), .int (0 : Int32), .int (Int32.ofInt 0), .int (0 : Int32)]))) f3539 => ?_)
  refine x_aload_n (M := M_X0_readInto) dX0_readInto_45 rfl ?_
  refine x_iconst (M := M_X0_readInto) dX0_readInto_46 ?_
  refine y_put (M := M_X0_readInto) (ci := 3) (C := RX0) (T := TX0) (N := 13) (ty := tyX0) cl3 dX0_readInto_47 w3538 12 (by decide) t_164 (Or.inl rfl) (Nat.le_of_ble_eq_true rfl) rfl (fun h3540 (w3541 : ob h3540 170 = some (.inr (3, [.int (dg &&& Int32.ofInt 3), .ref 166, .ref 171, .ref 172, .ref (34 + 4 * a0.toNatClampNeg), .int (Int32.ofInt 0), .int (Int32.ofInt 0), .int (Int32.ofInt 0), .int (Int32.ofInt 0), .int (0 : Int32), .int (0 : Int32), .int (Int32.ofInt 0), .int (Int32.ofInt 0)]))) f3542 => ?_)
  refine x_aload_n (M := M_X0_readInto) dX0_readInto_50 rfl ?_
  refine x_iconst (M := M_X0_readInto) dX0_readInto_51 ?_
  refine y_callVR (M := M_X0_readInto) (M' := M_X0_readShape) rfl rfl dX0_readInto_52 m_X0_readShape t_967 t_969 s_23 (q3558 hl c0 c1 w3541) rfl rfl w3541 rfl (Nat.le_of_ble_eq_true rfl) (Nat.le_of_ble_eq_true rfl) (Nat.le_of_ble_eq_true rfl) (Nat.le_of_ble_eq_true rfl) (fun h3559 f3560 w3561 => ?_)
  obtain ⟨o3562, -⟩ := w3561
  refine x_istore_n (M := M_X0_readInto) dX0_readInto_55 (Nat.le_of_ble_eq_true rfl) rfl ?_
  refine x_iconst (M := M_X0_readInto) dX0_readInto_56 ?_
  refine x_istore (M := M_X0_readInto) dX0_readInto_57 (Nat.le_of_ble_eq_true rfl) rfl ?_
  refine x_iload_n (M := M_X0_readInto) dX0_readInto_59 rfl ?_
  refine x_if_eq (M := M_X0_readInto) (tgt := 132) dX0_readInto_60 (by decide) (fun _ => ?_) (fun q => absurd q (by decide +kernel))
  refine x_iload_n (M := M_X0_readInto) dX0_readInto_132 rfl ?_
  refine x_if_eq (M := M_X0_readInto) (tgt := 160) dX0_readInto_133 (by decide) (fun _ => ?_) (fun q => absurd q (by decide +kernel))
  refine x_iconst (M := M_X0_readInto) dX0_readInto_160 ?_
  have o3563 := (f3560 (34 + 4 * a0.toNatClampNeg) _ (by simp only [List.mem_cons, List.not_mem_nil, or_false, not_or]; omega) (f3542 (34 + 4 * a0.toNatClampNeg) _ (by simp only [List.mem_cons, List.not_mem_nil, or_false, not_or]; omega) (f3539 (34 + 4 * a0.toNatClampNeg) _ (by simp only [List.mem_cons, List.not_mem_nil, or_false, not_or]; omega) (f3536 (34 + 4 * a0.toNatClampNeg) _ (by simp only [List.mem_cons, List.not_mem_nil, or_false, not_or]; omega) (f3533 (34 + 4 * a0.toNatClampNeg) _ (by simp only [List.mem_cons, List.not_mem_nil, or_false, not_or]; omega) (f3530 (34 + 4 * a0.toNatClampNeg) _ (by simp only [List.mem_cons, List.not_mem_nil, or_false, not_or]; omega) (f3527 (34 + 4 * a0.toNatClampNeg) _ (by simp only [List.mem_cons, List.not_mem_nil, or_false, not_or]; omega) o3521)))))))
  exact x_zret (M := M_X0_readInto) dX0_readInto_161 rfl (by decide) ⟨rfl, (fr_tr f3560 (by simp) (fr_tr f3542 (by simp) (fr_tr f3539 (by simp) (fr_tr f3536 (by simp) (fr_tr f3533 (by simp) (fr_tr f3530 (by simp) (fr_tr f3527 (by simp) (fr_tr f3519 (by simp) (fr_tr f3515 (by simp) fr_rf))))))))), ⟨o3562, o3563, trivial⟩⟩ (Nat.le_of_ble_eq_true rfl) (Nat.le_of_ble_eq_true rfl)
set_option maxRecDepth 10000 in
theorem q3580 {l : Launch} {E : EE} (hl : l.stackTraces = false) {h : HP} {a0 : Int32} {dg : Int32} (c0 : ¬ (a0.toInt < 0)) (c1 : a0.toInt < 32) (o3506 : ob h 32 = some (.inr (14, [.ref 33, .ref 162, .ref 166, .int (0 : Int32), .int (0 : Int32), .int (0 : Int32), .ref 167, .ref 170, .ref 173, .ref 177, .ref 193, .ref 208, .ref 222, .ref 238, .ref 252, .ref 274, .ref 275, .ref 276, .int (0 : Int32)]))) (o3510 : ob h 33 = some (.inl (4, 32, .inr (.inr (.inr (.inr (shf 1 32))))))) (o3565 : ob h 170 = some (.inr (3, [.int (dg &&& Int32.ofInt 3), .ref 166, .ref 171, .ref 172, .ref 162, .int (0 : Int32), .int (0 : Int32), .int (0 : Int32), .int (0 : Int32), .int (0 : Int32), .int (0 : Int32), .int (0 : Int32), .int (0 : Int32)]))) (o3567 : ob h (34 + 4 * a0.toNatClampNeg) = some (.inr (9, [.ref (35 + 4 * a0.toNatClampNeg), .ref (36 + 4 * a0.toNatClampNeg), .ref (37 + 4 * a0.toNatClampNeg), .int (0 : Int32), .int (0 : Int32)]))) (o3569 : ob h 166 = some (.inl (2, 65536, .inl (fun _ => 0)))) : en_C l E M_X11_readBytes 7 1 6 [.ref 32, .int a0] h (pT "java/lang/IllegalArgumentException" [32, 170, (34 + 4 * a0.toNatClampNeg)] h (fun _ => True)) := by
  have n_a0 : a0.toNatClampNeg < 32 := nc_lt (by omega) (by decide)
  refine en_mk m_X11_readBytes rfl hl (Nat.le_of_ble_eq_true rfl) ?_
  refine x_aload_n (M := M_X11_readBytes) dX11_readBytes_0 rfl ?_
  refine x_getf (M := M_X11_readBytes) (ci := 14) (C := RX11) (T := TX11) (N := 19) (ty := tyX11) cl14 dX11_readBytes_1 o3506 3 (by decide) t_566 (v := .int (0 : Int32)) rfl ?_
  refine x_top (M := M_X11_readBytes) (y := (Int32.ofInt 0)) (by decide +kernel) ?_
  refine x_istore_n (M := M_X11_readBytes) dX11_readBytes_4 (Nat.le_of_ble_eq_true rfl) rfl ?_
  refine x_aload_n (M := M_X11_readBytes) dX11_readBytes_5 rfl ?_
  refine x_iconst (M := M_X11_readBytes) dX11_readBytes_6 ?_
  refine y_put (M := M_X11_readBytes) (ci := 14) (C := RX11) (T := TX11) (N := 19) (ty := tyX11) cl14 dX11_readBytes_7 o3506 3 (by decide) t_566 (Or.inl rfl) (Nat.le_of_ble_eq_true rfl) rfl (fun h3507 (w3508 : ob h3507 32 = some (.inr (14, [.ref 33, .ref 162, .ref 166, .int (Int32.ofInt 0), .int (0 : Int32), .int (0 : Int32), .ref 167, .ref 170, .ref 173, .ref 177, .ref 193, .ref 208, .ref 222, .ref 238, .ref 252, .ref 274, .ref 275, .ref 276, .int (0 : Int32)]))) f3509 => ?_)
  refine x_aload_n (M := M_X11_readBytes) dX11_readBytes_10 rfl ?_
  refine x_iload_n (M := M_X11_readBytes) dX11_readBytes_11 rfl ?_
  have o3511 := (f3509 33 _ (by decide) o3510)
  refine x_callVR (M := M_X11_readBytes) (M' := M_X11_slotNumbered) rfl rfl dX11_readBytes_12 m_X11_slotNumbered t_744 t_746 s_2 (q3126 hl c0 c1 w3508 o3511) rfl rfl w3508 rfl (Nat.le_of_ble_eq_true rfl) (Nat.le_of_ble_eq_true rfl) (Nat.le_of_ble_eq_true rfl) (Nat.le_of_ble_eq_true rfl) ?_
  refine x_astore_n (M := M_X11_readBytes) dX11_readBytes_15 (Nat.le_of_ble_eq_true rfl) rfl ?_
  refine x_aload_n (M := M_X11_readBytes) dX11_readBytes_16 rfl ?_
  refine x_getf (M := M_X11_readBytes) (ci := 14) (C := RX11) (T := TX11) (N := 19) (ty := tyX11) cl14 dX11_readBytes_17 w3508 7 (by decide) t_570 (v := .ref 170) rfl ?_
  refine x_aload_n (M := M_X11_readBytes) dX11_readBytes_20 rfl ?_
  refine x_iload_n (M := M_X11_readBytes) dX11_readBytes_21 rfl ?_
  have o3566 := (f3509 170 _ (by decide) o3565)
  have o3568 := (f3509 (34 + 4 * a0.toNatClampNeg) _ (by simp only [List.mem_cons, List.not_mem_nil, or_false, not_or]; omega) o3567)
  have o3570 := (f3509 166 _ (by decide) o3569)
  refine y_callVR (M := M_X11_readBytes) (M' := M_X0_readInto) rfl rfl dX11_readBytes_22 m_X0_readInto t_961 t_962 t_963 (q3564 hl c0 c1 o3566 o3568 o3570) rfl rfl o3566 rfl (Nat.le_of_ble_eq_true rfl) (Nat.le_of_ble_eq_true rfl) (Nat.le_of_ble_eq_true rfl) (Nat.le_of_ble_eq_true rfl) (fun h3571 f3572 w3573 => ?_)
  obtain ⟨o3574, o3575, -⟩ := w3573
  refine x_istore (M := M_X11_readBytes) dX11_readBytes_25 (Nat.le_of_ble_eq_true rfl) rfl ?_
  refine x_aload_n (M := M_X11_readBytes) dX11_readBytes_27 rfl ?_
  refine x_aload_n (M := M_X11_readBytes) dX11_readBytes_28 rfl ?_
  refine x_iload (M := M_X11_readBytes) dX11_readBytes_29 rfl ?_
  refine x_aload_n (M := M_X11_readBytes) dX11_readBytes_31 rfl ?_
  have o3576 := (f3572 32 _ (by simp only [List.mem_cons, List.not_mem_nil, or_false, not_or]; omega) w3508)
  refine x_getf (M := M_X11_readBytes) (ci := 14) (C := RX11) (T := TX11) (N := 19) (ty := tyX11) cl14 dX11_readBytes_32 o3576 7 (by decide) t_570 (v := .ref 170) rfl ?_
  refine x_getf (M := M_X11_readBytes) (ci := 3) (C := RX0) (T := TX0) (N := 13) (ty := tyX0) cl3 dX11_readBytes_35 o3574 11 (by decide) t_163 (v := .int (Int32.ofInt 3)) rfl ?_
  refine x_aload_n (M := M_X11_readBytes) dX11_readBytes_38 rfl ?_
  refine x_getf (M := M_X11_readBytes) (ci := 14) (C := RX11) (T := TX11) (N := 19) (ty := tyX11) cl14 dX11_readBytes_39 o3576 7 (by decide) t_570 (v := .ref 170) rfl ?_
  refine x_getf (M := M_X11_readBytes) (ci := 3) (C := RX0) (T := TX0) (N := 13) (ty := tyX0) cl3 dX11_readBytes_42 o3574 12 (by decide) t_165 (v := .int (Int32.ofInt 0)) rfl ?_
  exact y_callVX (M := M_X11_readBytes) (M' := M_X11_kindOrFault) rfl rfl dX11_readBytes_45 m_X11_kindOrFault t_945 t_947 s_22 (q3227 hl c0 c1 o3576 o3575) rfl rfl o3576 rfl (Nat.le_of_ble_eq_true rfl) (Nat.le_of_ble_eq_true rfl) (Nat.le_of_ble_eq_true rfl) (Nat.le_of_ble_eq_true rfl) (fun h3577 f3578 w3579 => ⟨rfl, (fr_tr f3578 (by simp) (fr_tr f3572 (by simp) (fr_tr f3509 (by simp) fr_rf))), trivial⟩)
set_option maxRecDepth 10000 in
theorem q3589 {l : Launch} {E : EE} (hl : l.stackTraces = false) {h : HP} {a0 : Int32} {dg : Int32} (c0 : ¬ (a0.toInt < 0)) (c1 : a0.toInt < 32) (o3581 : ob h 32 = some (.inr (14, [.ref 33, .ref 162, .ref 166, .int (0 : Int32), .int (0 : Int32), .int (0 : Int32), .ref 167, .ref 170, .ref 173, .ref 177, .ref 193, .ref 208, .ref 222, .ref 238, .ref 252, .ref 274, .ref 275, .ref 276, .int (0 : Int32)]))) (o3582 : ob h 33 = some (.inl (4, 32, .inr (.inr (.inr (.inr (shf 1 32))))))) (o3583 : ob h 170 = some (.inr (3, [.int (dg &&& Int32.ofInt 3), .ref 166, .ref 171, .ref 172, .ref 162, .int (0 : Int32), .int (0 : Int32), .int (0 : Int32), .int (0 : Int32), .int (0 : Int32), .int (0 : Int32), .int (0 : Int32), .int (0 : Int32)]))) (o3584 : ob h (34 + 4 * a0.toNatClampNeg) = some (.inr (9, [.ref (35 + 4 * a0.toNatClampNeg), .ref (36 + 4 * a0.toNatClampNeg), .ref (37 + 4 * a0.toNatClampNeg), .int (0 : Int32), .int (0 : Int32)]))) (o3585 : ob h 166 = some (.inl (2, 65536, .inl (fun _ => 0)))) : en_C l E M_L_readBytes 8 1 6 [.ref 32, .int a0, .ref 359] h (pF (some (.int (Int32.ofInt 2))) [32, 170, (34 + 4 * a0.toNatClampNeg)] h (fun _ => True)) := by
  have n_a0 : a0.toNatClampNeg < 32 := nc_lt (by omega) (by decide)
  refine en_mkW m_L_readBytes rfl hl (Nat.le_of_ble_eq_true rfl) ?_
  refine x_aload_n (M := M_L_readBytes) dL_readBytes_0 rfl ?_
  refine x_iconst (M := M_L_readBytes) dL_readBytes_1 ?_
  refine x_aload_n (M := M_L_readBytes) dL_readBytes_2 rfl ?_
  refine x_iload_n (M := M_L_readBytes) dL_readBytes_3 rfl ?_
  refine y_callVHX (M := M_L_readBytes) (M' := M_X11_readBytes) (i9 := 3) (nx := 16) rfl dL_readBytes_4 m_X11_readBytes t_957 t_958 t_959 o3581 rfl (q3580 hl c0 c1 o3581 o3582 o3583 o3584 o3585) rfl rfl (Nat.le_of_ble_eq_true rfl) (Nat.le_of_ble_eq_true rfl) (Nat.le_of_ble_eq_true rfl) (Nat.le_of_ble_eq_true rfl) (en_hdn (k0 := 3) [(0, 9, 12, 24)] [] rfl (List.forall_mem_cons.mpr ⟨⟨by decide, "java/lang/IndexOutOfBoundsException", t_739, by decide +kernel, by decide +kernel, by decide +kernel⟩, (fun _ h => nomatch h)⟩) (by decide +kernel) (by decide) t_716 n_723 dL_readBytes_15) (by decide) rfl (fun h3586 f3587 w3588 => ?_)
  refine x_iconst (M := M_L_readBytes) dL_readBytes_16 ?_
  exact x_iret (M := M_L_readBytes) dL_readBytes_17 rfl ⟨rfl, (fr_tr f3587 (by simp) fr_rf), trivial⟩ (Nat.le_of_ble_eq_true rfl) (Nat.le_of_ble_eq_true rfl)
set_option maxRecDepth 10000 in
theorem q3638 {l : Launch} {E : EE} (hl : l.stackTraces = false) {h : HP} {dg : Int32} (o3624 : ob h 277 = some (.inr (15, (((((((RB dg).set 0 (.int (Int32.ofInt 0))).set 4 (.int (Int32.ofInt 0))).set 17 (.int (Int32.ofInt 0))).set 18 (.int (Int32.ofInt 0))).set 20 (.int (Int32.ofInt 0))).set 29 (.int (Int32.ofInt 0)))))) (o3625 : ob h 280 = some (.inl (0, 33, .inl (fun _ => 0)))) (o3631 : ob h 282 = some (.inl (0, 33, .inl (fun _ => 0)))) : en_C l E M_X12_clear 0 0 0 [.ref 277, .int (Int32.ofInt 32)] h (pF none [280, 282] h (fun h' => ob h' 280 = some (.inl (0, 33, .inl (fun _ => 0))) ∧ ob h' 282 = some (.inl (0, 33, .inl (fun _ => 0))) ∧ True)) := by
  refine en_mk m_X12_clear rfl hl (Nat.le_of_ble_eq_true rfl) ?_
  refine x_aload_n (M := M_X12_clear) dX12_clear_0 rfl ?_
  refine x_getf (M := M_X12_clear) (ci := 15) (C := RX12) (T := TX12) (N := 135) (ty := tyX12) cl15 dX12_clear_1 o3624 9 (by decide) t_2400 (v := .ref 280) rfl ?_
  refine x_iload_n (M := M_X12_clear) dX12_clear_4 rfl ?_
  refine x_iconst (M := M_X12_clear) dX12_clear_5 ?_
  refine y_iast (M := M_X12_clear) (k := 32) dX12_clear_6 o3625 (vp_inD (by decide +kernel)) (by decide +kernel) (fun h3626 w3627 f3628 => ?_)
  have w3629 : ob h3626 280 = some (.inl (0, 33, .inl (fun _ => 0))) := by rw [w3627, up_z (k := 32)]
  refine x_aload_n (M := M_X12_clear) dX12_clear_7 rfl ?_
  have o3630 := (f3628 277 _ (by decide) o3624)
  refine x_getf (M := M_X12_clear) (ci := 15) (C := RX12) (T := TX12) (N := 135) (ty := tyX12) cl15 dX12_clear_8 o3630 11 (by decide) t_2402 (v := .ref 282) rfl ?_
  refine x_iload_n (M := M_X12_clear) dX12_clear_11 rfl ?_
  refine x_iconst (M := M_X12_clear) dX12_clear_12 ?_
  have o3632 := (f3628 282 _ (by decide) o3631)
  refine y_iast (M := M_X12_clear) (k := 32) dX12_clear_13 o3632 (vp_inD (by decide +kernel)) (by decide +kernel) (fun h3633 w3634 f3635 => ?_)
  have w3636 : ob h3633 282 = some (.inl (0, 33, .inl (fun _ => 0))) := by rw [w3634, up_z (k := 32)]
  have o3637 := (f3635 280 _ (by decide) w3629)
  exact x_vret (M := M_X12_clear) dX12_clear_14 rfl ⟨rfl, (fr_tr f3635 (by decide) (fr_tr f3628 (by decide) fr_rf)), ⟨o3637, w3636, trivial⟩⟩ (Nat.le_of_ble_eq_true rfl) (Nat.le_of_ble_eq_true rfl)
set_option maxRecDepth 10000 in
theorem q3649 {l : Launch} {E : EE} (hl : l.stackTraces = false) {h : HP} {dg : Int32} (o3648 : ob h 277 = some (.inr (15, (((((((RB dg).set 0 (.int (Int32.ofInt 0))).set 4 (.int (Int32.ofInt 0))).set 17 (.int (Int32.ofInt 0))).set 18 (.int (Int32.ofInt 0))).set 20 (.int (Int32.ofInt 0))).set 29 (.int (Int32.ofInt 0)))))) : en_C l E M_X12_there 0 0 0 [.ref 277, .int (Int32.ofInt 1)] h (pR (some (.int (Int32.ofInt 0))) h) := by
  refine en_mk m_X12_there rfl hl (Nat.le_of_ble_eq_true rfl) ?_
  refine x_aload_n (M := M_X12_there) dX12_there_0 rfl ?_
  refine x_getf (M := M_X12_there) (ci := 15) (C := RX12) (T := TX12) (N := 135) (ty := tyX12) cl15 dX12_there_1 o3648 17 (by decide) t_2408 (v := .int (Int32.ofInt 0)) rfl ?_
  refine x_iload_n (M := M_X12_there) dX12_there_4 rfl ?_
  refine x_iadd (M := M_X12_there) dX12_there_5 ?_
  refine x_aload_n (M := M_X12_there) dX12_there_6 rfl ?_
  refine x_getf (M := M_X12_there) (ci := 15) (C := RX12) (T := TX12) (N := 135) (ty := tyX12) cl15 dX12_there_7 o3648 18 (by decide) t_2409 (v := .int (Int32.ofInt 0)) rfl ?_
  refine x_icmp_gt (M := M_X12_there) (tgt := 17) dX12_there_10 (by decide) (fun _ => ?_) (fun q => absurd q (by decide +kernel))
  refine x_iconst (M := M_X12_there) dX12_there_17 ?_
  exact x_zret (M := M_X12_there) dX12_there_18 rfl (by decide) ⟨rfl, rfl⟩ (Nat.le_of_ble_eq_true rfl) (Nat.le_of_ble_eq_true rfl)
set_option maxRecDepth 10000 in
theorem q3660 {l : Launch} {E : EE} (hl : l.stackTraces = false) {h : HP} {dg : Int32} (o3651 : ob h 277 = some (.inr (15, (((((((RB dg).set 0 (.int (Int32.ofInt 0))).set 4 (.int (Int32.ofInt 0))).set 17 (.int (Int32.ofInt 0))).set 18 (.int (Int32.ofInt 0))).set 20 (.int (Int32.ofInt 0))).set 29 (.int (Int32.ofInt 0)))))) : en_C l E M_X12_wrong 0 0 0 [.ref 277, .int (Int32.ofInt 3), .int (Int32.ofInt 0)] h (pF (some (.int (Int32.ofInt 0))) [277] h (fun h' => ob h' 277 = some (.inr (15, (((((((((RB dg).set 0 (.int (Int32.ofInt 0))).set 4 (.int (Int32.ofInt 0))).set 7 (.int (Int32.ofInt 3))).set 8 (.int (Int32.ofInt 0))).set 17 (.int (Int32.ofInt 0))).set 18 (.int (Int32.ofInt 0))).set 20 (.int (Int32.ofInt 0))).set 29 (.int (Int32.ofInt 0))))) ∧ True)) := by
  refine en_mk m_X12_wrong rfl hl (Nat.le_of_ble_eq_true rfl) ?_
  refine x_aload_n (M := M_X12_wrong) dX12_wrong_0 rfl ?_
  refine x_iload_n (M := M_X12_wrong) dX12_wrong_1 rfl ?_
  refine y_put (M := M_X12_wrong) (ci := 15) (C := RX12) (T := TX12) (N := 135) (ty := tyX12) cl15 dX12_wrong_2 o3651 7 (by decide) t_2398 (Or.inl rfl) (Nat.le_of_ble_eq_true rfl) rfl (fun h3652 w3653 f3654 => ?_)
  have w3655 : ob h3652 277 = some (.inr (15, ((((((((RB dg).set 0 (.int (Int32.ofInt 0))).set 4 (.int (Int32.ofInt 0))).set 7 (.int (Int32.ofInt 3))).set 17 (.int (Int32.ofInt 0))).set 18 (.int (Int32.ofInt 0))).set 20 (.int (Int32.ofInt 0))).set 29 (.int (Int32.ofInt 0))))) := by rw [w3653, ls_sw (i := 29) (j := 7) (by decide), ls_sw (i := 20) (j := 7) (by decide), ls_sw (i := 18) (j := 7) (by decide), ls_sw (i := 17) (j := 7) (by decide)]
  refine x_aload_n (M := M_X12_wrong) dX12_wrong_5 rfl ?_
  refine x_iload_n (M := M_X12_wrong) dX12_wrong_6 rfl ?_
  refine y_put (M := M_X12_wrong) (ci := 15) (C := RX12) (T := TX12) (N := 135) (ty := tyX12) cl15 dX12_wrong_7 w3655 8 (by decide) t_2399 (Or.inl rfl) (Nat.le_of_ble_eq_true rfl) rfl (fun h3656 w3657 f3658 => ?_)
  have w3659 : ob h3656 277 = some (.inr (15, (((((((((RB dg).set 0 (.int (Int32.ofInt 0))).set 4 (.int (Int32.ofInt 0))).set 7 (.int (Int32.ofInt 3))).set 8 (.int (Int32.ofInt 0))).set 17 (.int (Int32.ofInt 0))).set 18 (.int (Int32.ofInt 0))).set 20 (.int (Int32.ofInt 0))).set 29 (.int (Int32.ofInt 0))))) := by rw [w3657, ls_sw (i := 29) (j := 8) (by decide), ls_sw (i := 20) (j := 8) (by decide), ls_sw (i := 18) (j := 8) (by decide), ls_sw (i := 17) (j := 8) (by decide)]
  refine x_iconst (M := M_X12_wrong) dX12_wrong_10 ?_
  exact x_zret (M := M_X12_wrong) dX12_wrong_11 rfl (by decide) ⟨rfl, (fr_tr f3658 (by decide) (fr_tr f3654 (by decide) fr_rf)), ⟨w3659, trivial⟩⟩ (Nat.le_of_ble_eq_true rfl) (Nat.le_of_ble_eq_true rfl)
set_option maxRecDepth 10000 in
theorem q3665 {l : Launch} {E : EE} (hl : l.stackTraces = false) {h : HP} {dg : Int32} (o3650 : ob h 277 = some (.inr (15, (((((((RB dg).set 0 (.int (Int32.ofInt 0))).set 4 (.int (Int32.ofInt 0))).set 17 (.int (Int32.ofInt 0))).set 18 (.int (Int32.ofInt 0))).set 20 (.int (Int32.ofInt 0))).set 29 (.int (Int32.ofInt 0)))))) : en_C l E M_X12_shapeOfBytes 1 0 0 [.ref 277, .int (Int32.ofInt 0)] h (pF (some (.int (Int32.ofInt 0))) [277] h (fun h' => ob h' 277 = some (.inr (15, (((((((((RB dg).set 0 (.int (Int32.ofInt 0))).set 4 (.int (Int32.ofInt 0))).set 7 (.int (Int32.ofInt 3))).set 8 (.int (Int32.ofInt 0))).set 17 (.int (Int32.ofInt 0))).set 18 (.int (Int32.ofInt 0))).set 20 (.int (Int32.ofInt 0))).set 29 (.int (Int32.ofInt 0))))) ∧ True)) := by
  refine en_mk m_X12_shapeOfBytes rfl hl (Nat.le_of_ble_eq_true rfl) ?_
  refine x_aload_n (M := M_X12_shapeOfBytes) dX12_shapeOfBytes_0 rfl ?_
  refine x_iconst (M := M_X12_shapeOfBytes) dX12_shapeOfBytes_1 ?_
  refine x_callVR (M := M_X12_shapeOfBytes) (M' := M_X12_there) rfl rfl dX12_shapeOfBytes_2 m_X12_there t_2974 t_2976 s_187 (q3649 hl o3650) rfl rfl o3650 rfl (Nat.le_of_ble_eq_true rfl) (Nat.le_of_ble_eq_true rfl) (Nat.le_of_ble_eq_true rfl) (Nat.le_of_ble_eq_true rfl) ?_
  refine x_if_ne (M := M_X12_shapeOfBytes) (tgt := 18) dX12_shapeOfBytes_5 (by decide) (fun q => absurd q (by decide +kernel)) (fun _ => ?_)
  refine x_aload_n (M := M_X12_shapeOfBytes) dX12_shapeOfBytes_8 rfl ?_
  refine x_iconst (M := M_X12_shapeOfBytes) dX12_shapeOfBytes_9 ?_
  refine x_aload_n (M := M_X12_shapeOfBytes) dX12_shapeOfBytes_10 rfl ?_
  refine x_getf (M := M_X12_shapeOfBytes) (ci := 15) (C := RX12) (T := TX12) (N := 135) (ty := tyX12) cl15 dX12_shapeOfBytes_11 o3650 17 (by decide) t_2408 (v := .int (Int32.ofInt 0)) rfl ?_
  refine y_callVR (M := M_X12_shapeOfBytes) (M' := M_X12_wrong) rfl rfl dX12_shapeOfBytes_14 m_X12_wrong t_2874 t_2876 s_166 (q3660 hl o3650) rfl rfl o3650 rfl (Nat.le_of_ble_eq_true rfl) (Nat.le_of_ble_eq_true rfl) (Nat.le_of_ble_eq_true rfl) (Nat.le_of_ble_eq_true rfl) (fun h3661 f3662 w3663 => ?_)
  obtain ⟨o3664, -⟩ := w3663
  exact x_zret (M := M_X12_shapeOfBytes) dX12_shapeOfBytes_17 rfl (by decide) ⟨rfl, (fr_tr f3662 (by decide) fr_rf), ⟨o3664, trivial⟩⟩ (Nat.le_of_ble_eq_true rfl) (Nat.le_of_ble_eq_true rfl)
set_option maxRecDepth 10000 in
theorem q3673 {l : Launch} {E : EE} (hl : l.stackTraces = false) {h : HP} {dg : Int32} (o3613 : ob h 277 = some (.inr (15, ((((RB dg).set 0 (.int (Int32.ofInt 0))).set 4 (.int (Int32.ofInt 0))).set 18 (.int (Int32.ofInt 0)))))) (o3639 : ob h 280 = some (.inl (0, 33, .inl (fun _ => 0)))) (o3641 : ob h 282 = some (.inl (0, 33, .inl (fun _ => 0)))) : en_C l E M_X12_bytes 2 0 0 [.ref 277] h (pF (some (.int (Int32.ofInt 0))) [277, 280, 282] h (fun h' => ob h' 277 = some (.inr (15, (((((((((RB dg).set 0 (.int (Int32.ofInt 0))).set 4 (.int (Int32.ofInt 0))).set 7 (.int (Int32.ofInt 3))).set 8 (.int (Int32.ofInt 0))).set 17 (.int (Int32.ofInt 0))).set 18 (.int (Int32.ofInt 0))).set 20 (.int (Int32.ofInt 0))).set 29 (.int (Int32.ofInt 0))))) ∧ ob h' 280 = some (.inl (0, 33, .inl (fun _ => 0))) ∧ ob h' 282 = some (.inl (0, 33, .inl (fun _ => 0))) ∧ True)) := by
  refine en_mk m_X12_bytes rfl hl (Nat.le_of_ble_eq_true rfl) ?_
  refine x_aload_n (M := M_X12_bytes) dX12_bytes_0 rfl ?_
  refine x_iconst (M := M_X12_bytes) dX12_bytes_1 ?_
  refine y_put (M := M_X12_bytes) (ci := 15) (C := RX12) (T := TX12) (N := 135) (ty := tyX12) cl15 dX12_bytes_2 o3613 17 (by decide) t_2408 (Or.inl rfl) (Nat.le_of_ble_eq_true rfl) rfl (fun h3614 w3615 f3616 => ?_)
  have w3617 : ob h3614 277 = some (.inr (15, (((((RB dg).set 0 (.int (Int32.ofInt 0))).set 4 (.int (Int32.ofInt 0))).set 17 (.int (Int32.ofInt 0))).set 18 (.int (Int32.ofInt 0))))) := by rw [w3615, ls_sw (i := 18) (j := 17) (by decide)]
  refine x_aload_n (M := M_X12_bytes) dX12_bytes_5 rfl ?_
  refine x_iconst (M := M_X12_bytes) dX12_bytes_6 ?_
  refine y_put (M := M_X12_bytes) (ci := 15) (C := RX12) (T := TX12) (N := 135) (ty := tyX12) cl15 dX12_bytes_7 w3617 20 (by decide) t_2411 (Or.inl rfl) (Nat.le_of_ble_eq_true rfl) rfl (fun h3618 w3619 f3620 => ?_)
  refine x_aload_n (M := M_X12_bytes) dX12_bytes_10 rfl ?_
  refine x_iconst (M := M_X12_bytes) dX12_bytes_11 ?_
  refine y_put (M := M_X12_bytes) (ci := 15) (C := RX12) (T := TX12) (N := 135) (ty := tyX12) cl15 dX12_bytes_12 w3619 29 (by decide) t_2420 (Or.inl rfl) (Nat.le_of_ble_eq_true rfl) rfl (fun h3621 w3622 f3623 => ?_)
  refine x_aload_n (M := M_X12_bytes) dX12_bytes_15 rfl ?_
  refine x_bipush (M := M_X12_bytes) dX12_bytes_16 ?_
  refine x_top (M := M_X12_bytes) (y := (Int32.ofInt 32)) (by decide +kernel) ?_
  have o3640 := (f3623 280 _ (by decide) (f3620 280 _ (by decide) (f3616 280 _ (by decide) o3639)))
  have o3642 := (f3623 282 _ (by decide) (f3620 282 _ (by decide) (f3616 282 _ (by decide) o3641)))
  refine y_callVR (M := M_X12_bytes) (M' := M_X12_clear) rfl rfl dX12_bytes_18 m_X12_clear t_2848 t_2850 s_161 (q3638 hl w3622 o3640 o3642) rfl rfl w3622 rfl (Nat.le_of_ble_eq_true rfl) (Nat.le_of_ble_eq_true rfl) (Nat.le_of_ble_eq_true rfl) (Nat.le_of_ble_eq_true rfl) (fun h3643 f3644 w3645 => ?_)
  obtain ⟨o3646, o3647, -⟩ := w3645
  refine x_aload_n (M := M_X12_bytes) dX12_bytes_21 rfl ?_
  refine x_iconst (M := M_X12_bytes) dX12_bytes_22 ?_
  have o3666 := (f3644 277 _ (by decide) w3622)
  refine y_callVR (M := M_X12_bytes) (M' := M_X12_shapeOfBytes) rfl rfl dX12_bytes_23 m_X12_shapeOfBytes t_2970 t_2972 s_186 (q3665 hl o3666) rfl rfl o3666 rfl (Nat.le_of_ble_eq_true rfl) (Nat.le_of_ble_eq_true rfl) (Nat.le_of_ble_eq_true rfl) (Nat.le_of_ble_eq_true rfl) (fun h3667 f3668 w3669 => ?_)
  obtain ⟨o3670, -⟩ := w3669
  refine x_istore_n (M := M_X12_bytes) dX12_bytes_26 (Nat.le_of_ble_eq_true rfl) rfl ?_
  refine x_iload_n (M := M_X12_bytes) dX12_bytes_27 rfl ?_
  refine x_if_eq (M := M_X12_bytes) (tgt := 119) dX12_bytes_28 (by decide) (fun _ => ?_) (fun q => absurd q (by decide +kernel))
  refine x_iload_n (M := M_X12_bytes) dX12_bytes_119 rfl ?_
  refine x_if_eq (M := M_X12_bytes) (tgt := 151) dX12_bytes_120 (by decide) (fun _ => ?_) (fun q => absurd q (by decide +kernel))
  refine x_iconst (M := M_X12_bytes) dX12_bytes_151 ?_
  have o3671 := (f3668 280 _ (by decide) o3646)
  have o3672 := (f3668 282 _ (by decide) o3647)
  exact x_zret (M := M_X12_bytes) dX12_bytes_152 rfl (by decide) ⟨rfl, (fr_tr f3668 (by decide) (fr_tr f3644 (by decide) (fr_tr f3623 (by decide) (fr_tr f3620 (by decide) (fr_tr f3616 (by decide) fr_rf))))), ⟨o3670, o3671, o3672, trivial⟩⟩ (Nat.le_of_ble_eq_true rfl) (Nat.le_of_ble_eq_true rfl)
set_option maxRecDepth 10000 in
theorem q3698 {l : Launch} {E : EE} (hl : l.stackTraces = false) {h : HP} {a0 : Int32} {dg : Int32} (c0 : ¬ (a0.toInt < 0)) (c1 : a0.toInt < 32) (o3684 : ob h 277 = some (.inr (15, (((((((((RB dg).set 0 (.int (Int32.ofInt 0))).set 4 (.int (Int32.ofInt 0))).set 7 (.int (Int32.ofInt 3))).set 8 (.int (Int32.ofInt 0))).set 17 (.int (Int32.ofInt 0))).set 18 (.int (Int32.ofInt 0))).set 20 (.int (Int32.ofInt 0))).set 29 (.int (Int32.ofInt 0)))))) (o3685 : ob h 280 = some (.inl (0, 33, .inl (fun _ => 0)))) (o3691 : ob h 282 = some (.inl (0, 33, .inl (fun _ => 0)))) : en_C l E M_X12_clear 0 0 0 [.ref 277, .int a0] h (pF none [280, 282] h (fun h' => ob h' 280 = some (.inl (0, 33, .inl (fun _ => 0))) ∧ ob h' 282 = some (.inl (0, 33, .inl (fun _ => 0))) ∧ True)) := by
  refine en_mk m_X12_clear rfl hl (Nat.le_of_ble_eq_true rfl) ?_
  refine x_aload_n (M := M_X12_clear) dX12_clear_0 rfl ?_
  refine x_getf (M := M_X12_clear) (ci := 15) (C := RX12) (T := TX12) (N := 135) (ty := tyX12) cl15 dX12_clear_1 o3684 9 (by decide) t_2400 (v := .ref 280) rfl ?_
  refine x_iload_n (M := M_X12_clear) dX12_clear_4 rfl ?_
  refine x_iconst (M := M_X12_clear) dX12_clear_5 ?_
  refine y_iast (M := M_X12_clear) (k := a0.toNatClampNeg) dX12_clear_6 o3685 (vp_in_s (by omega) (by omega)) rfl (fun h3686 w3687 f3688 => ?_)
  have w3689 : ob h3686 280 = some (.inl (0, 33, .inl (fun _ => 0))) := by rw [w3687, up_z (k := a0.toNatClampNeg)]
  refine x_aload_n (M := M_X12_clear) dX12_clear_7 rfl ?_
  have o3690 := (f3688 277 _ (by decide) o3684)
  refine x_getf (M := M_X12_clear) (ci := 15) (C := RX12) (T := TX12) (N := 135) (ty := tyX12) cl15 dX12_clear_8 o3690 11 (by decide) t_2402 (v := .ref 282) rfl ?_
  refine x_iload_n (M := M_X12_clear) dX12_clear_11 rfl ?_
  refine x_iconst (M := M_X12_clear) dX12_clear_12 ?_
  have o3692 := (f3688 282 _ (by decide) o3691)
  refine y_iast (M := M_X12_clear) (k := a0.toNatClampNeg) dX12_clear_13 o3692 (vp_in_s (by omega) (by omega)) rfl (fun h3693 w3694 f3695 => ?_)
  have w3696 : ob h3693 282 = some (.inl (0, 33, .inl (fun _ => 0))) := by rw [w3694, up_z (k := a0.toNatClampNeg)]
  have o3697 := (f3695 280 _ (by decide) w3689)
  exact x_vret (M := M_X12_clear) dX12_clear_14 rfl ⟨rfl, (fr_tr f3695 (by decide) (fr_tr f3688 (by decide) fr_rf)), ⟨o3697, w3696, trivial⟩⟩ (Nat.le_of_ble_eq_true rfl) (Nat.le_of_ble_eq_true rfl)
set_option maxRecDepth 10000 in
theorem q3709 {l : Launch} {E : EE} (hl : l.stackTraces = false) {h : HP} {dg : Int32} (o3704 : ob h 277 = some (.inr (15, (((((((((RB dg).set 0 (.int (Int32.ofInt 0))).set 4 (.int (Int32.ofInt 0))).set 7 (.int (Int32.ofInt 3))).set 8 (.int (Int32.ofInt 0))).set 17 (.int (Int32.ofInt 0))).set 18 (.int (Int32.ofInt 0))).set 20 (.int (Int32.ofInt 0))).set 29 (.int (Int32.ofInt 0)))))) : en_C l E M_X12_fails 0 0 0 [.ref 277, .int (Int32.ofInt 1), .int (Int32.ofInt 2)] h (pF (some (.int (Int32.ofInt 1))) [277] h (fun h' => ob h' 277 = some (.inr (15, (((((((((RB dg).set 0 (.int (Int32.ofInt 2))).set 4 (.int (Int32.ofInt 0))).set 7 (.int (Int32.ofInt 3))).set 8 (.int (Int32.ofInt 0))).set 17 (.int (Int32.ofInt 0))).set 18 (.int (Int32.ofInt 0))).set 20 (.int (Int32.ofInt 0))).set 29 (.int (Int32.ofInt 0))))) ∧ True)) := by
  refine en_mk m_X12_fails rfl hl (Nat.le_of_ble_eq_true rfl) ?_
  refine x_aload_n (M := M_X12_fails) dX12_fails_0 rfl ?_
  refine x_iload_n (M := M_X12_fails) dX12_fails_1 rfl ?_
  refine x_if_eq (M := M_X12_fails) (tgt := 16) dX12_fails_2 (by decide) (fun q => absurd q (by decide +kernel)) (fun _ => ?_)
  refine x_aload_n (M := M_X12_fails) dX12_fails_5 rfl ?_
  refine x_getf (M := M_X12_fails) (ci := 15) (C := RX12) (T := TX12) (N := 135) (ty := tyX12) cl15 dX12_fails_6 o3704 0 (by decide) t_2391 (v := .int (Int32.ofInt 0)) rfl ?_
  refine x_if_ne (M := M_X12_fails) (tgt := 16) dX12_fails_9 (by decide) (fun q => absurd q (by decide +kernel)) (fun _ => ?_)
  refine x_iload_n (M := M_X12_fails) dX12_fails_12 rfl ?_
  refine x_goto (M := M_X12_fails) (tgt := 20) dX12_fails_13 (by decide) ?_
  refine y_put (M := M_X12_fails) (ci := 15) (C := RX12) (T := TX12) (N := 135) (ty := tyX12) cl15 dX12_fails_20 o3704 0 (by decide) t_2391 (Or.inl rfl) (Nat.le_of_ble_eq_true rfl) rfl (fun h3705 w3706 f3707 => ?_)
  have w3708 : ob h3705 277 = some (.inr (15, (((((((((RB dg).set 0 (.int (Int32.ofInt 2))).set 4 (.int (Int32.ofInt 0))).set 7 (.int (Int32.ofInt 3))).set 8 (.int (Int32.ofInt 0))).set 17 (.int (Int32.ofInt 0))).set 18 (.int (Int32.ofInt 0))).set 20 (.int (Int32.ofInt 0))).set 29 (.int (Int32.ofInt 0))))) := by rw [w3706, ls_sw (i := 29) (j := 0) (by decide), ls_sw (i := 20) (j := 0) (by decide), ls_sw (i := 18) (j := 0) (by decide), ls_sw (i := 17) (j := 0) (by decide), ls_sw (i := 8) (j := 0) (by decide), ls_sw (i := 7) (j := 0) (by decide), ls_sw (i := 4) (j := 0) (by decide), List.set_set]
  refine x_aload_n (M := M_X12_fails) dX12_fails_23 rfl ?_
  refine x_getf (M := M_X12_fails) (ci := 15) (C := RX12) (T := TX12) (N := 135) (ty := tyX12) cl15 dX12_fails_24 w3708 0 (by decide) t_2391 (v := .int (Int32.ofInt 2)) rfl ?_
  refine x_if_eq (M := M_X12_fails) (tgt := 34) dX12_fails_27 (by decide) (fun q => absurd q (by decide +kernel)) (fun _ => ?_)
  refine x_iconst (M := M_X12_fails) dX12_fails_30 ?_
  refine x_goto (M := M_X12_fails) (tgt := 35) dX12_fails_31 (by decide) ?_
  exact x_zret (M := M_X12_fails) dX12_fails_35 rfl (by decide) ⟨rfl, (fr_tr f3707 (by decide) fr_rf), ⟨w3708, trivial⟩⟩ (Nat.le_of_ble_eq_true rfl) (Nat.le_of_ble_eq_true rfl)
set_option maxRecDepth 10000 in
theorem q3717 {l : Launch} {E : EE} (hl : l.stackTraces = false) {h : HP} {a0 : Int32} {dg : Int32} (c0 : ¬ (a0.toInt < 0)) (c1 : a0.toInt < 32) (o3598 : ob h 277 = some (.inr (15, (RB dg)))) (o3674 : ob h 280 = some (.inl (0, 33, .inl (fun _ => 0)))) (o3676 : ob h 282 = some (.inl (0, 33, .inl (fun _ => 0)))) : en_C l E M_X12_reads 3 0 0 [.ref 277, .int a0, .int (Int32.ofInt 0)] h (pF (some (.int (Int32.ofInt 0))) [277, 280, 282] h (fun h' => ob h' 277 = some (.inr (15, (((((((((RB dg).set 0 (.int (Int32.ofInt 2))).set 4 (.int (Int32.ofInt 0))).set 7 (.int (Int32.ofInt 3))).set 8 (.int (Int32.ofInt 0))).set 17 (.int (Int32.ofInt 0))).set 18 (.int (Int32.ofInt 0))).set 20 (.int (Int32.ofInt 0))).set 29 (.int (Int32.ofInt 0))))) ∧ ob h' 280 = some (.inl (0, 33, .inl (fun _ => 0))) ∧ ob h' 282 = some (.inl (0, 33, .inl (fun _ => 0))) ∧ True)) := by
  refine en_mk m_X12_reads rfl hl (Nat.le_of_ble_eq_true rfl) ?_
  refine x_aload_n (M := M_X12_reads) dX12_reads_0 rfl ?_
  refine x_iconst (M := M_X12_reads) dX12_reads_1 ?_
  refine y_put (M := M_X12_reads) (ci := 15) (C := RX12) (T := TX12) (N := 135) (ty := tyX12) cl15 dX12_reads_2 o3598 0 (by decide) t_2391 (Or.inl rfl) (Nat.le_of_ble_eq_true rfl) rfl (fun h3599 w3600 f3601 => ?_)
  refine x_aload_n (M := M_X12_reads) dX12_reads_5 rfl ?_
  refine x_aload_n (M := M_X12_reads) dX12_reads_6 rfl ?_
  refine x_getf (M := M_X12_reads) (ci := 15) (C := RX12) (T := TX12) (N := 135) (ty := tyX12) cl15 dX12_reads_7 w3600 4 (by decide) t_2395 (v := .int (0 : Int32)) rfl ?_
  refine x_top (M := M_X12_reads) (y := (Int32.ofInt 0)) (by decide +kernel) ?_
  refine y_put (M := M_X12_reads) (ci := 15) (C := RX12) (T := TX12) (N := 135) (ty := tyX12) cl15 dX12_reads_10 w3600 18 (by decide) t_2409 (Or.inl rfl) (Nat.le_of_ble_eq_true rfl) rfl (fun h3602 w3603 f3604 => ?_)
  refine x_aload_n (M := M_X12_reads) dX12_reads_13 rfl ?_
  refine x_iconst (M := M_X12_reads) dX12_reads_14 ?_
  refine y_put (M := M_X12_reads) (ci := 15) (C := RX12) (T := TX12) (N := 135) (ty := tyX12) cl15 dX12_reads_15 w3603 4 (by decide) t_2395 (Or.inl rfl) (Nat.le_of_ble_eq_true rfl) rfl (fun h3605 w3606 f3607 => ?_)
  have w3608 : ob h3605 277 = some (.inr (15, ((((RB dg).set 0 (.int (Int32.ofInt 0))).set 4 (.int (Int32.ofInt 0))).set 18 (.int (Int32.ofInt 0))))) := by rw [w3606, ls_sw (i := 18) (j := 4) (by decide)]
  refine x_aload_n (M := M_X12_reads) dX12_reads_18 rfl ?_
  refine x_iload_n (M := M_X12_reads) dX12_reads_19 rfl ?_
  refine x_callSR (M := M_X12_reads) (M' := M_X12_isSlot) rfl rfl dX12_reads_20 m_X12_isSlot t_2841 t_2842 (q447 hl c0 c1) rfl rfl (Nat.le_of_ble_eq_true rfl) (Nat.le_of_ble_eq_true rfl) (Nat.le_of_ble_eq_true rfl) (Nat.le_of_ble_eq_true rfl) ?_
  refine x_if_ne (M := M_X12_reads) (tgt := 30) dX12_reads_23 (by decide) (fun _ => ?_) (fun q => absurd q (by decide +kernel))
  refine x_iconst (M := M_X12_reads) dX12_reads_30 ?_
  refine x_iconst (M := M_X12_reads) dX12_reads_31 ?_
  refine y_callVR (M := M_X12_reads) (M' := M_X12_fails) rfl rfl dX12_reads_32 m_X12_fails t_2805 t_2807 s_157 (q3265 hl w3608) rfl rfl w3608 rfl (Nat.le_of_ble_eq_true rfl) (Nat.le_of_ble_eq_true rfl) (Nat.le_of_ble_eq_true rfl) (Nat.le_of_ble_eq_true rfl) (fun h3609 f3610 w3611 => ?_)
  obtain ⟨o3612, -⟩ := w3611
  refine x_if_eq (M := M_X12_reads) (tgt := 40) dX12_reads_35 (by decide) (fun _ => ?_) (fun q => absurd q (by decide +kernel))
  refine x_iload_n (M := M_X12_reads) dX12_reads_40 rfl ?_
  refine x_if_eq (M := M_X12_reads) (tgt := 51) dX12_reads_41 (by decide) (fun _ => ?_) (fun q => absurd q (by decide +kernel))
  refine x_aload_n (M := M_X12_reads) dX12_reads_51 rfl ?_
  have o3675 := (f3610 280 _ (by decide) (f3607 280 _ (by decide) (f3604 280 _ (by decide) (f3601 280 _ (by decide) o3674))))
  have o3677 := (f3610 282 _ (by decide) (f3607 282 _ (by decide) (f3604 282 _ (by decide) (f3601 282 _ (by decide) o3676))))
  refine y_callVR (M := M_X12_reads) (M' := M_X12_bytes) rfl rfl dX12_reads_52 m_X12_bytes t_2966 t_2968 s_185 (q3673 hl o3612 o3675 o3677) rfl rfl o3612 rfl (Nat.le_of_ble_eq_true rfl) (Nat.le_of_ble_eq_true rfl) (Nat.le_of_ble_eq_true rfl) (Nat.le_of_ble_eq_true rfl) (fun h3678 f3679 w3680 => ?_)
  obtain ⟨o3681, o3682, o3683, -⟩ := w3680
  refine x_istore_n (M := M_X12_reads) dX12_reads_55 (Nat.le_of_ble_eq_true rfl) rfl ?_
  refine x_aload_n (M := M_X12_reads) dX12_reads_56 rfl ?_
  refine x_iload_n (M := M_X12_reads) dX12_reads_57 rfl ?_
  refine y_callVR (M := M_X12_reads) (M' := M_X12_clear) rfl rfl dX12_reads_58 m_X12_clear t_2848 t_2850 s_161 (q3698 hl c0 c1 o3681 o3682 o3683) rfl rfl o3681 rfl (Nat.le_of_ble_eq_true rfl) (Nat.le_of_ble_eq_true rfl) (Nat.le_of_ble_eq_true rfl) (Nat.le_of_ble_eq_true rfl) (fun h3699 f3700 w3701 => ?_)
  obtain ⟨o3702, o3703, -⟩ := w3701
  refine x_aload_n (M := M_X12_reads) dX12_reads_61 rfl ?_
  refine x_iload_n (M := M_X12_reads) dX12_reads_62 rfl ?_
  refine x_if_ne (M := M_X12_reads) (tgt := 70) dX12_reads_63 (by decide) (fun q => absurd q (by decide +kernel)) (fun _ => ?_)
  refine x_iconst (M := M_X12_reads) dX12_reads_66 ?_
  refine x_goto (M := M_X12_reads) (tgt := 71) dX12_reads_67 (by decide) ?_
  refine x_iconst (M := M_X12_reads) dX12_reads_71 ?_
  have o3710 := (f3700 277 _ (by decide) o3681)
  refine y_callVR (M := M_X12_reads) (M' := M_X12_fails) rfl rfl dX12_reads_72 m_X12_fails t_2805 t_2807 s_157 (q3709 hl o3710) rfl rfl o3710 rfl (Nat.le_of_ble_eq_true rfl) (Nat.le_of_ble_eq_true rfl) (Nat.le_of_ble_eq_true rfl) (Nat.le_of_ble_eq_true rfl) (fun h3711 f3712 w3713 => ?_)
  obtain ⟨o3714, -⟩ := w3713
  refine x_if_eq (M := M_X12_reads) (tgt := 80) dX12_reads_75 (by decide) (fun q => absurd q (by decide +kernel)) (fun _ => ?_)
  refine x_iconst (M := M_X12_reads) dX12_reads_78 ?_
  have o3715 := (f3712 280 _ (by decide) o3702)
  have o3716 := (f3712 282 _ (by decide) o3703)
  exact x_iret (M := M_X12_reads) dX12_reads_79 rfl ⟨rfl, (fr_tr f3712 (by decide) (fr_tr f3700 (by decide) (fr_tr f3679 (by decide) (fr_tr f3610 (by decide) (fr_tr f3607 (by decide) (fr_tr f3604 (by decide) (fr_tr f3601 (by decide) fr_rf))))))), ⟨o3714, o3715, o3716, trivial⟩⟩ (Nat.le_of_ble_eq_true rfl) (Nat.le_of_ble_eq_true rfl)
set_option maxRecDepth 10000 in
theorem q3727 {l : Launch} {E : EE} (hl : l.stackTraces = false) {h : HP} {a0 : Int32} {dg : Int32} (c0 : ¬ (a0.toInt < 0)) (c1 : a0.toInt < 32) (o3718 : ob h 277 = some (.inr (15, (RB dg)))) (o3719 : ob h 280 = some (.inl (0, 33, .inl (fun _ => 0)))) (o3720 : ob h 282 = some (.inl (0, 33, .inl (fun _ => 0)))) : en_C l E M_X12_readBytes 4 0 0 [.ref 277, .int a0] h (pF (some (.int (Int32.ofInt 0))) [277, 280, 282] h (fun h' => ob h' 277 = some (.inr (15, (((((((((RB dg).set 0 (.int (Int32.ofInt 2))).set 4 (.int (Int32.ofInt 0))).set 7 (.int (Int32.ofInt 3))).set 8 (.int (Int32.ofInt 0))).set 17 (.int (Int32.ofInt 0))).set 18 (.int (Int32.ofInt 0))).set 20 (.int (Int32.ofInt 0))).set 29 (.int (Int32.ofInt 0))))) ∧ ob h' 280 = some (.inl (0, 33, .inl (fun _ => 0))) ∧ ob h' 282 = some (.inl (0, 33, .inl (fun _ => 0))) ∧ True)) := by
  refine en_mk m_X12_readBytes rfl hl (Nat.le_of_ble_eq_true rfl) ?_
  refine x_aload_n (M := M_X12_readBytes) dX12_readBytes_0 rfl ?_
  refine x_iload_n (M := M_X12_readBytes) dX12_readBytes_1 rfl ?_
  refine x_iconst (M := M_X12_readBytes) dX12_readBytes_2 ?_
  refine y_callVR (M := M_X12_readBytes) (M' := M_X12_reads) rfl rfl dX12_readBytes_3 m_X12_reads t_2837 t_2839 s_159 (q3717 hl c0 c1 o3718 o3719 o3720) rfl rfl o3718 rfl (Nat.le_of_ble_eq_true rfl) (Nat.le_of_ble_eq_true rfl) (Nat.le_of_ble_eq_true rfl) (Nat.le_of_ble_eq_true rfl) (fun h3721 f3722 w3723 => ?_)
  obtain ⟨o3724, o3725, o3726, -⟩ := w3723
  exact x_iret (M := M_X12_readBytes) dX12_readBytes_6 rfl ⟨rfl, (fr_tr f3722 (by decide) fr_rf), ⟨o3724, o3725, o3726, trivial⟩⟩ (Nat.le_of_ble_eq_true rfl) (Nat.le_of_ble_eq_true rfl)
set_option maxRecDepth 10000 in
theorem q3741 {l : Launch} {E : EE} (hl : l.stackTraces = false) {h : HP} {dg : Int32} (o3740 : ob h 277 = some (.inr (15, (((((((((RB dg).set 0 (.int (Int32.ofInt 2))).set 4 (.int (Int32.ofInt 0))).set 7 (.int (Int32.ofInt 3))).set 8 (.int (Int32.ofInt 0))).set 17 (.int (Int32.ofInt 0))).set 18 (.int (Int32.ofInt 0))).set 20 (.int (Int32.ofInt 0))).set 29 (.int (Int32.ofInt 0)))))) : en_C l E M_X12_thrown 0 0 0 [.ref 277] h (pR (some (.int (Int32.ofInt 2))) h) := by
  refine en_mk m_X12_thrown rfl hl (Nat.le_of_ble_eq_true rfl) ?_
  refine x_aload_n (M := M_X12_thrown) dX12_thrown_0 rfl ?_
  refine x_getf (M := M_X12_thrown) (ci := 15) (C := RX12) (T := TX12) (N := 135) (ty := tyX12) cl15 dX12_thrown_1 o3740 0 (by decide) t_2391 (v := .int (Int32.ofInt 2)) rfl ?_
  exact x_iret (M := M_X12_thrown) dX12_thrown_4 rfl ⟨rfl, rfl⟩ (Nat.le_of_ble_eq_true rfl) (Nat.le_of_ble_eq_true rfl)
set_option maxRecDepth 10000 in
theorem lc4_1 {l : Launch} {E : EE} (hl : l.stackTraces = false) (nm : String) {xs : Nat → Int32} (hx : E.2.2.2.2 0 = some (7, xs)) {h : HP} {a0 : Int32} {dg : Int32} (e2 : xs 2 = a0) (c0 : ¬ (a0.toInt < 0)) (c1 : a0.toInt < 32) (o3590 : ob h 32 = some (.inr (14, [.ref 33, .ref 162, .ref 166, .int (0 : Int32), .int (0 : Int32), .int (0 : Int32), .ref 167, .ref 170, .ref 173, .ref 177, .ref 193, .ref 208, .ref 222, .ref 238, .ref 252, .ref 274, .ref 275, .ref 276, .int (0 : Int32)]))) (o3591 : ob h 33 = some (.inl (4, 32, .inr (.inr (.inr (.inr (shf 1 32))))))) (o3592 : ob h 170 = some (.inr (3, [.int (dg &&& Int32.ofInt 3), .ref 166, .ref 171, .ref 172, .ref 162, .int (0 : Int32), .int (0 : Int32), .int (0 : Int32), .int (0 : Int32), .int (0 : Int32), .int (0 : Int32), .int (0 : Int32), .int (0 : Int32)]))) (o3593 : ob h (34 + 4 * a0.toNatClampNeg) = some (.inr (9, [.ref (35 + 4 * a0.toNatClampNeg), .ref (36 + 4 * a0.toNatClampNeg), .ref (37 + 4 * a0.toNatClampNeg), .int (0 : Int32), .int (0 : Int32)]))) (o3594 : ob h 166 = some (.inl (2, 65536, .inl (fun _ => 0)))) (o3728 : ob h 277 = some (.inr (15, (RB dg)))) (o3730 : ob h 280 = some (.inl (0, 33, .inl (fun _ => 0)))) (o3732 : ob h 282 = some (.inl (0, 33, .inl (fun _ => 0)))) : XX l E (M_law nm) 1312 342628 8074320 (fun o _ => o = .inl (some (.int 1))) 421 [some (.ref 0), some (.ref 32), some (.ref 277), some (.ref 359), some (.int (Int32.ofInt 1)), none, none, none] [] h 328 2463747 := by
  have n_a0 : a0.toNatClampNeg < 32 := nc_lt (by omega) (by decide)
  refine x_aload_n (M := (M_law nm)) dL_law_421 rfl ?_
  refine x_aload_n (M := (M_law nm)) dL_law_422 rfl ?_
  refine x_iload (M := (M_law nm)) dL_law_423 rfl ?_
  refine x_iconst (M := (M_law nm)) dL_law_425 ?_
  refine x_iadd (M := (M_law nm)) dL_law_426 ?_
  refine x_sald (M := (M_law nm)) dL_law_427 (by decide) hx (vp_inD (by decide +kernel)) ?_
  refine x_top (M := (M_law nm)) (y := a0) ((congrArg xs (by decide +kernel : ((Int32.ofInt 1) + (Int32.ofInt 1)).toNatClampNeg = 2)).trans e2) ?_
  refine x_aload_n (M := (M_law nm)) dL_law_428 rfl ?_
  refine y_callSW (M := (M_law nm)) (M' := M_L_readBytes) rfl rfl dL_law_429 m_L_readBytes t_954 t_955 (q3589 hl c0 c1 o3590 o3591 o3592 o3593 o3594) rfl rfl (Nat.le_of_ble_eq_true rfl) (Nat.le_of_ble_eq_true rfl) (Nat.le_of_ble_eq_true rfl) (Nat.le_of_ble_eq_true rfl) (fun h3595 f3596 w3597 => ?_)
  refine x_istore (M := (M_law nm)) dL_law_432 (Nat.le_of_ble_eq_true rfl) rfl ?_
  refine x_aload_n (M := (M_law nm)) dL_law_434 rfl ?_
  refine x_aload_n (M := (M_law nm)) dL_law_435 rfl ?_
  refine x_iload (M := (M_law nm)) dL_law_436 rfl ?_
  refine x_iconst (M := (M_law nm)) dL_law_438 ?_
  refine x_iadd (M := (M_law nm)) dL_law_439 ?_
  refine x_sald (M := (M_law nm)) dL_law_440 (by decide) hx (vp_inD (by decide +kernel)) ?_
  refine x_top (M := (M_law nm)) (y := a0) ((congrArg xs (by decide +kernel : ((Int32.ofInt 1) + (Int32.ofInt 1)).toNatClampNeg = 2)).trans e2) ?_
  have o3729 := (f3596 277 _ (by simp only [List.mem_cons, List.not_mem_nil, or_false, not_or]; omega) o3728)
  have o3731 := (f3596 280 _ (by simp only [List.mem_cons, List.not_mem_nil, or_false, not_or]; omega) o3730)
  have o3733 := (f3596 282 _ (by simp only [List.mem_cons, List.not_mem_nil, or_false, not_or]; omega) o3732)
  refine y_callVR (M := (M_law nm)) (M' := M_X12_readBytes) rfl rfl dL_law_441 m_X12_readBytes t_3025 t_3026 t_3027 (q3727 hl c0 c1 o3729 o3731 o3733) rfl rfl o3729 rfl (Nat.le_of_ble_eq_true rfl) (Nat.le_of_ble_eq_true rfl) (Nat.le_of_ble_eq_true rfl) (Nat.le_of_ble_eq_true rfl) (fun h3734 f3735 w3736 => ?_)
  obtain ⟨o3737, o3738, o3739, -⟩ := w3736
  refine x_istore (M := (M_law nm)) dL_law_444 (Nat.le_of_ble_eq_true rfl) rfl ?_
  refine x_aload_n (M := (M_law nm)) dL_law_446 rfl ?_
  refine x_callVR (M := (M_law nm)) (M' := M_X12_thrown) rfl rfl dL_law_447 m_X12_thrown t_2797 t_2798 t_2799 (q3741 hl o3737) rfl rfl o3737 rfl (Nat.le_of_ble_eq_true rfl) (Nat.le_of_ble_eq_true rfl) (Nat.le_of_ble_eq_true rfl) (Nat.le_of_ble_eq_true rfl) ?_
  refine x_iload (M := (M_law nm)) dL_law_450 rfl ?_
  refine x_icmp_eq (M := (M_law nm)) (tgt := 457) dL_law_452 (by decide) (fun _ => ?_) (fun q => absurd q (by decide +kernel))
  refine x_iload (M := (M_law nm)) dL_law_457 rfl ?_
  refine x_if_ne (M := (M_law nm)) (tgt := 474) dL_law_459 (by decide) (fun _ => ?_) (fun q => absurd q (by decide +kernel))
  refine x_goto (M := (M_law nm)) (tgt := 2449) dL_law_474 (by decide) ?_
  refine x_iinc (M := (M_law nm)) dL_law_2449 rfl (Nat.le_of_ble_eq_true rfl) rfl ?_
  refine x_lvs (M := (M_law nm)) (lv' := [some (.ref 0), some (.ref 32), some (.ref 277), some (.ref 359), some (.int (Int32.ofInt 7)), some (.int (Int32.ofInt 2)), some (.int (Int32.ofInt 0)), none]) (by rw [(by decide +kernel : (Int32.ofInt 1) + Int32.ofInt 6 = (Int32.ofInt 7))] <;> rfl) ?_
  refine x_goto (M := (M_law nm)) (tgt := 33) dL_law_2452 (by decide) ?_
  refine x_iload (M := (M_law nm)) dL_law_33 rfl ?_
  refine x_aload_n (M := (M_law nm)) dL_law_35 rfl ?_
  refine x_slen (M := (M_law nm)) dL_law_36 (by decide) hx ?_
  refine x_bipush (M := (M_law nm)) dL_law_37 ?_
  refine x_isub (M := (M_law nm)) dL_law_39 ?_
  refine x_icmp_gt (M := (M_law nm)) (tgt := 2455) dL_law_40 (by decide) (fun _ => ?_) (fun q => absurd q (by decide +kernel))
  refine x_iconst (M := (M_law nm)) dL_law_2455 ?_
  exact x_zret (M := (M_law nm)) dL_law_2456 rfl (by decide) rfl (Nat.le_of_ble_eq_true rfl) (Nat.le_of_ble_eq_true rfl)
set_option maxRecDepth 10000 in
theorem q3749 {l : Launch} {E : EE} (hl : l.stackTraces = false) {h : HP} {a0 : Int32} (c0 : ¬ (a0.toInt < 0)) (c1 : ¬ (a0.toInt < 32)) (o3742 : ob h 32 = some (.inr (14, [.ref 33, .ref 162, .ref 166, .int (0 : Int32), .int (0 : Int32), .int (0 : Int32), .ref 167, .ref 170, .ref 173, .ref 177, .ref 193, .ref 208, .ref 222, .ref 238, .ref 252, .ref 274, .ref 275, .ref 276, .int (0 : Int32)]))) : en_C l E M_X11_readBytes 7 1 6 [.ref 32, .int a0] h (pT "java/lang/IndexOutOfBoundsException" [32] h (fun _ => True)) := by
  refine en_mk m_X11_readBytes rfl hl (Nat.le_of_ble_eq_true rfl) ?_
  refine x_aload_n (M := M_X11_readBytes) dX11_readBytes_0 rfl ?_
  refine x_getf (M := M_X11_readBytes) (ci := 14) (C := RX11) (T := TX11) (N := 19) (ty := tyX11) cl14 dX11_readBytes_1 o3742 3 (by decide) t_566 (v := .int (0 : Int32)) rfl ?_
  refine x_top (M := M_X11_readBytes) (y := (Int32.ofInt 0)) (by decide +kernel) ?_
  refine x_istore_n (M := M_X11_readBytes) dX11_readBytes_4 (Nat.le_of_ble_eq_true rfl) rfl ?_
  refine x_aload_n (M := M_X11_readBytes) dX11_readBytes_5 rfl ?_
  refine x_iconst (M := M_X11_readBytes) dX11_readBytes_6 ?_
  refine y_put (M := M_X11_readBytes) (ci := 14) (C := RX11) (T := TX11) (N := 19) (ty := tyX11) cl14 dX11_readBytes_7 o3742 3 (by decide) t_566 (Or.inl rfl) (Nat.le_of_ble_eq_true rfl) rfl (fun h3743 (w3744 : ob h3743 32 = some (.inr (14, [.ref 33, .ref 162, .ref 166, .int (Int32.ofInt 0), .int (0 : Int32), .int (0 : Int32), .ref 167, .ref 170, .ref 173, .ref 177, .ref 193, .ref 208, .ref 222, .ref 238, .ref 252, .ref 274, .ref 275, .ref 276, .int (0 : Int32)]))) f3745 => ?_)
  refine x_aload_n (M := M_X11_readBytes) dX11_readBytes_10 rfl ?_
  refine x_iload_n (M := M_X11_readBytes) dX11_readBytes_11 rfl ?_
  exact y_callVX (M := M_X11_readBytes) (M' := M_X11_slotNumbered) rfl rfl dX11_readBytes_12 m_X11_slotNumbered t_744 t_746 s_2 (q511 hl c0 c1) rfl rfl w3744 rfl (Nat.le_of_ble_eq_true rfl) (Nat.le_of_ble_eq_true rfl) (Nat.le_of_ble_eq_true rfl) (Nat.le_of_ble_eq_true rfl) (fun h3746 f3747 w3748 => ⟨rfl, (fr_tr f3747 (fun _ h => nomatch h) (fr_tr f3745 (by decide) fr_rf)), trivial⟩)
set_option maxRecDepth 10000 in
theorem q3754 {l : Launch} {E : EE} (hl : l.stackTraces = false) {h : HP} {a0 : Int32} (c0 : ¬ (a0.toInt < 0)) (c1 : ¬ (a0.toInt < 32)) (o3750 : ob h 32 = some (.inr (14, [.ref 33, .ref 162, .ref 166, .int (0 : Int32), .int (0 : Int32), .int (0 : Int32), .ref 167, .ref 170, .ref 173, .ref 177, .ref 193, .ref 208, .ref 222, .ref 238, .ref 252, .ref 274, .ref 275, .ref 276, .int (0 : Int32)]))) : en_C l E M_L_readBytes 8 1 6 [.ref 32, .int a0, .ref 359] h (pF (some (.int (Int32.ofInt 1))) [32] h (fun _ => True)) := by
  refine en_mkW m_L_readBytes rfl hl (Nat.le_of_ble_eq_true rfl) ?_
  refine x_aload_n (M := M_L_readBytes) dL_readBytes_0 rfl ?_
  refine x_iconst (M := M_L_readBytes) dL_readBytes_1 ?_
  refine x_aload_n (M := M_L_readBytes) dL_readBytes_2 rfl ?_
  refine x_iload_n (M := M_L_readBytes) dL_readBytes_3 rfl ?_
  refine y_callVHX (M := M_L_readBytes) (M' := M_X11_readBytes) (i9 := 3) (nx := 13) rfl dL_readBytes_4 m_X11_readBytes t_957 t_958 t_959 o3750 rfl (q3749 hl c0 c1 o3750) rfl rfl (Nat.le_of_ble_eq_true rfl) (Nat.le_of_ble_eq_true rfl) (Nat.le_of_ble_eq_true rfl) (Nat.le_of_ble_eq_true rfl) (en_hdn (k0 := 3) [] [(0, 9, 15, 19)] rfl (fun _ h => nomatch h) (by decide +kernel) (by decide) t_739 n_750 dL_readBytes_12) (by decide) rfl (fun h3751 f3752 w3753 => ?_)
  refine x_iconst (M := M_L_readBytes) dL_readBytes_13 ?_
  exact x_iret (M := M_L_readBytes) dL_readBytes_14 rfl ⟨rfl, (fr_tr f3752 (by decide) fr_rf), trivial⟩ (Nat.le_of_ble_eq_true rfl) (Nat.le_of_ble_eq_true rfl)
set_option maxRecDepth 10000 in
theorem q3774 {l : Launch} {E : EE} (hl : l.stackTraces = false) {h : HP} {a0 : Int32} {dg : Int32} (c0 : ¬ (a0.toInt < 0)) (c1 : ¬ (a0.toInt < 32)) (o3759 : ob h 277 = some (.inr (15, (RB dg)))) : en_C l E M_X12_reads 1 0 0 [.ref 277, .int a0, .int (Int32.ofInt 0)] h (pF (some (.int (Int32.ofInt 0))) [277] h (fun h' => ob h' 277 = some (.inr (15, ((((RB dg).set 0 (.int (Int32.ofInt 1))).set 4 (.int (Int32.ofInt 0))).set 18 (.int (Int32.ofInt 0))))) ∧ True)) := by
  refine en_mk m_X12_reads rfl hl (Nat.le_of_ble_eq_true rfl) ?_
  refine x_aload_n (M := M_X12_reads) dX12_reads_0 rfl ?_
  refine x_iconst (M := M_X12_reads) dX12_reads_1 ?_
  refine y_put (M := M_X12_reads) (ci := 15) (C := RX12) (T := TX12) (N := 135) (ty := tyX12) cl15 dX12_reads_2 o3759 0 (by decide) t_2391 (Or.inl rfl) (Nat.le_of_ble_eq_true rfl) rfl (fun h3760 w3761 f3762 => ?_)
  refine x_aload_n (M := M_X12_reads) dX12_reads_5 rfl ?_
  refine x_aload_n (M := M_X12_reads) dX12_reads_6 rfl ?_
  refine x_getf (M := M_X12_reads) (ci := 15) (C := RX12) (T := TX12) (N := 135) (ty := tyX12) cl15 dX12_reads_7 w3761 4 (by decide) t_2395 (v := .int (0 : Int32)) rfl ?_
  refine x_top (M := M_X12_reads) (y := (Int32.ofInt 0)) (by decide +kernel) ?_
  refine y_put (M := M_X12_reads) (ci := 15) (C := RX12) (T := TX12) (N := 135) (ty := tyX12) cl15 dX12_reads_10 w3761 18 (by decide) t_2409 (Or.inl rfl) (Nat.le_of_ble_eq_true rfl) rfl (fun h3763 w3764 f3765 => ?_)
  refine x_aload_n (M := M_X12_reads) dX12_reads_13 rfl ?_
  refine x_iconst (M := M_X12_reads) dX12_reads_14 ?_
  refine y_put (M := M_X12_reads) (ci := 15) (C := RX12) (T := TX12) (N := 135) (ty := tyX12) cl15 dX12_reads_15 w3764 4 (by decide) t_2395 (Or.inl rfl) (Nat.le_of_ble_eq_true rfl) rfl (fun h3766 w3767 f3768 => ?_)
  have w3769 : ob h3766 277 = some (.inr (15, ((((RB dg).set 0 (.int (Int32.ofInt 0))).set 4 (.int (Int32.ofInt 0))).set 18 (.int (Int32.ofInt 0))))) := by rw [w3767, ls_sw (i := 18) (j := 4) (by decide)]
  refine x_aload_n (M := M_X12_reads) dX12_reads_18 rfl ?_
  refine x_iload_n (M := M_X12_reads) dX12_reads_19 rfl ?_
  refine x_callSR (M := M_X12_reads) (M' := M_X12_isSlot) rfl rfl dX12_reads_20 m_X12_isSlot t_2841 t_2842 (q530 hl c0 c1) rfl rfl (Nat.le_of_ble_eq_true rfl) (Nat.le_of_ble_eq_true rfl) (Nat.le_of_ble_eq_true rfl) (Nat.le_of_ble_eq_true rfl) ?_
  refine x_if_ne (M := M_X12_reads) (tgt := 30) dX12_reads_23 (by decide) (fun q => absurd q (by decide +kernel)) (fun _ => ?_)
  refine x_iconst (M := M_X12_reads) dX12_reads_26 ?_
  refine x_goto (M := M_X12_reads) (tgt := 31) dX12_reads_27 (by decide) ?_
  refine x_iconst (M := M_X12_reads) dX12_reads_31 ?_
  refine y_callVR (M := M_X12_reads) (M' := M_X12_fails) rfl rfl dX12_reads_32 m_X12_fails t_2805 t_2807 s_157 (q3096 hl w3769) rfl rfl w3769 rfl (Nat.le_of_ble_eq_true rfl) (Nat.le_of_ble_eq_true rfl) (Nat.le_of_ble_eq_true rfl) (Nat.le_of_ble_eq_true rfl) (fun h3770 f3771 w3772 => ?_)
  obtain ⟨o3773, -⟩ := w3772
  refine x_if_eq (M := M_X12_reads) (tgt := 40) dX12_reads_35 (by decide) (fun q => absurd q (by decide +kernel)) (fun _ => ?_)
  refine x_iconst (M := M_X12_reads) dX12_reads_38 ?_
  exact x_iret (M := M_X12_reads) dX12_reads_39 rfl ⟨rfl, (fr_tr f3771 (by decide) (fr_tr f3768 (by decide) (fr_tr f3765 (by decide) (fr_tr f3762 (by decide) fr_rf)))), ⟨o3773, trivial⟩⟩ (Nat.le_of_ble_eq_true rfl) (Nat.le_of_ble_eq_true rfl)
set_option maxRecDepth 10000 in
theorem q3780 {l : Launch} {E : EE} (hl : l.stackTraces = false) {h : HP} {a0 : Int32} {dg : Int32} (c0 : ¬ (a0.toInt < 0)) (c1 : ¬ (a0.toInt < 32)) (o3775 : ob h 277 = some (.inr (15, (RB dg)))) : en_C l E M_X12_readBytes 2 0 0 [.ref 277, .int a0] h (pF (some (.int (Int32.ofInt 0))) [277] h (fun h' => ob h' 277 = some (.inr (15, ((((RB dg).set 0 (.int (Int32.ofInt 1))).set 4 (.int (Int32.ofInt 0))).set 18 (.int (Int32.ofInt 0))))) ∧ True)) := by
  refine en_mk m_X12_readBytes rfl hl (Nat.le_of_ble_eq_true rfl) ?_
  refine x_aload_n (M := M_X12_readBytes) dX12_readBytes_0 rfl ?_
  refine x_iload_n (M := M_X12_readBytes) dX12_readBytes_1 rfl ?_
  refine x_iconst (M := M_X12_readBytes) dX12_readBytes_2 ?_
  refine y_callVR (M := M_X12_readBytes) (M' := M_X12_reads) rfl rfl dX12_readBytes_3 m_X12_reads t_2837 t_2839 s_159 (q3774 hl c0 c1 o3775) rfl rfl o3775 rfl (Nat.le_of_ble_eq_true rfl) (Nat.le_of_ble_eq_true rfl) (Nat.le_of_ble_eq_true rfl) (Nat.le_of_ble_eq_true rfl) (fun h3776 f3777 w3778 => ?_)
  obtain ⟨o3779, -⟩ := w3778
  exact x_iret (M := M_X12_readBytes) dX12_readBytes_6 rfl ⟨rfl, (fr_tr f3777 (by decide) fr_rf), ⟨o3779, trivial⟩⟩ (Nat.le_of_ble_eq_true rfl) (Nat.le_of_ble_eq_true rfl)
set_option maxRecDepth 10000 in
theorem lc4_2 {l : Launch} {E : EE} (hl : l.stackTraces = false) (nm : String) {xs : Nat → Int32} (hx : E.2.2.2.2 0 = some (7, xs)) {h : HP} {a0 : Int32} {dg : Int32} (e2 : xs 2 = a0) (c0 : ¬ (a0.toInt < 0)) (c1 : ¬ (a0.toInt < 32)) (o3755 : ob h 32 = some (.inr (14, [.ref 33, .ref 162, .ref 166, .int (0 : Int32), .int (0 : Int32), .int (0 : Int32), .ref 167, .ref 170, .ref 173, .ref 177, .ref 193, .ref 208, .ref 222, .ref 238, .ref 252, .ref 274, .ref 275, .ref 276, .int (0 : Int32)]))) (o3781 : ob h 277 = some (.inr (15, (RB dg)))) : XX l E (M_law nm) 1312 342628 8074320 (fun o _ => o = .inl (some (.int 1))) 421 [some (.ref 0), some (.ref 32), some (.ref 277), some (.ref 359), some (.int (Int32.ofInt 1)), none, none, none] [] h 328 2463747 := by
  refine x_aload_n (M := (M_law nm)) dL_law_421 rfl ?_
  refine x_aload_n (M := (M_law nm)) dL_law_422 rfl ?_
  refine x_iload (M := (M_law nm)) dL_law_423 rfl ?_
  refine x_iconst (M := (M_law nm)) dL_law_425 ?_
  refine x_iadd (M := (M_law nm)) dL_law_426 ?_
  refine x_sald (M := (M_law nm)) dL_law_427 (by decide) hx (vp_inD (by decide +kernel)) ?_
  refine x_top (M := (M_law nm)) (y := a0) ((congrArg xs (by decide +kernel : ((Int32.ofInt 1) + (Int32.ofInt 1)).toNatClampNeg = 2)).trans e2) ?_
  refine x_aload_n (M := (M_law nm)) dL_law_428 rfl ?_
  refine y_callSW (M := (M_law nm)) (M' := M_L_readBytes) rfl rfl dL_law_429 m_L_readBytes t_954 t_955 (q3754 hl c0 c1 o3755) rfl rfl (Nat.le_of_ble_eq_true rfl) (Nat.le_of_ble_eq_true rfl) (Nat.le_of_ble_eq_true rfl) (Nat.le_of_ble_eq_true rfl) (fun h3756 f3757 w3758 => ?_)
  refine x_istore (M := (M_law nm)) dL_law_432 (Nat.le_of_ble_eq_true rfl) rfl ?_
  refine x_aload_n (M := (M_law nm)) dL_law_434 rfl ?_
  refine x_aload_n (M := (M_law nm)) dL_law_435 rfl ?_
  refine x_iload (M := (M_law nm)) dL_law_436 rfl ?_
  refine x_iconst (M := (M_law nm)) dL_law_438 ?_
  refine x_iadd (M := (M_law nm)) dL_law_439 ?_
  refine x_sald (M := (M_law nm)) dL_law_440 (by decide) hx (vp_inD (by decide +kernel)) ?_
  refine x_top (M := (M_law nm)) (y := a0) ((congrArg xs (by decide +kernel : ((Int32.ofInt 1) + (Int32.ofInt 1)).toNatClampNeg = 2)).trans e2) ?_
  have o3782 := (f3757 277 _ (by decide) o3781)
  refine y_callVR (M := (M_law nm)) (M' := M_X12_readBytes) rfl rfl dL_law_441 m_X12_readBytes t_3025 t_3026 t_3027 (q3780 hl c0 c1 o3782) rfl rfl o3782 rfl (Nat.le_of_ble_eq_true rfl) (Nat.le_of_ble_eq_true rfl) (Nat.le_of_ble_eq_true rfl) (Nat.le_of_ble_eq_true rfl) (fun h3783 f3784 w3785 => ?_)
  obtain ⟨o3786, -⟩ := w3785
  refine x_istore (M := (M_law nm)) dL_law_444 (Nat.le_of_ble_eq_true rfl) rfl ?_
  refine x_aload_n (M := (M_law nm)) dL_law_446 rfl ?_
  refine x_callVR (M := (M_law nm)) (M' := M_X12_thrown) rfl rfl dL_law_447 m_X12_thrown t_2797 t_2798 t_2799 (q3115 hl o3786) rfl rfl o3786 rfl (Nat.le_of_ble_eq_true rfl) (Nat.le_of_ble_eq_true rfl) (Nat.le_of_ble_eq_true rfl) (Nat.le_of_ble_eq_true rfl) ?_
  refine x_iload (M := (M_law nm)) dL_law_450 rfl ?_
  refine x_icmp_eq (M := (M_law nm)) (tgt := 457) dL_law_452 (by decide) (fun _ => ?_) (fun q => absurd q (by decide +kernel))
  refine x_iload (M := (M_law nm)) dL_law_457 rfl ?_
  refine x_if_ne (M := (M_law nm)) (tgt := 474) dL_law_459 (by decide) (fun _ => ?_) (fun q => absurd q (by decide +kernel))
  refine x_goto (M := (M_law nm)) (tgt := 2449) dL_law_474 (by decide) ?_
  refine x_iinc (M := (M_law nm)) dL_law_2449 rfl (Nat.le_of_ble_eq_true rfl) rfl ?_
  refine x_lvs (M := (M_law nm)) (lv' := [some (.ref 0), some (.ref 32), some (.ref 277), some (.ref 359), some (.int (Int32.ofInt 7)), some (.int (Int32.ofInt 1)), some (.int (Int32.ofInt 0)), none]) (by rw [(by decide +kernel : (Int32.ofInt 1) + Int32.ofInt 6 = (Int32.ofInt 7))] <;> rfl) ?_
  refine x_goto (M := (M_law nm)) (tgt := 33) dL_law_2452 (by decide) ?_
  refine x_iload (M := (M_law nm)) dL_law_33 rfl ?_
  refine x_aload_n (M := (M_law nm)) dL_law_35 rfl ?_
  refine x_slen (M := (M_law nm)) dL_law_36 (by decide) hx ?_
  refine x_bipush (M := (M_law nm)) dL_law_37 ?_
  refine x_isub (M := (M_law nm)) dL_law_39 ?_
  refine x_icmp_gt (M := (M_law nm)) (tgt := 2455) dL_law_40 (by decide) (fun _ => ?_) (fun q => absurd q (by decide +kernel))
  refine x_iconst (M := (M_law nm)) dL_law_2455 ?_
  exact x_zret (M := (M_law nm)) dL_law_2456 rfl (by decide) rfl (Nat.le_of_ble_eq_true rfl) (Nat.le_of_ble_eq_true rfl)
theorem lop4 {l : Launch} {E : EE} (hl : l.stackTraces = false) (nm : String) {xs : Nat → Int32} (hx : E.2.2.2.2 0 = some (7, xs)) (dg : Int32) : XX l E (M_law nm) 1312 342628 8074320 (fun o _ => o = .inl (some (.int 1))) 421 [some (.ref 0), some (.ref 32), some (.ref 277), some (.ref 359), some (.int (Int32.ofInt 1)), none, none, none] [] (HH dg) 328 2463747 := by
  obtain ⟨a0, e2⟩ : ∃ a : Int32, xs 2 = a := ⟨_, rfl⟩
  obtain ⟨a1, e3⟩ : ∃ a : Int32, xs 3 = a := ⟨_, rfl⟩
  obtain ⟨a2, e4⟩ : ∃ a : Int32, xs 4 = a := ⟨_, rfl⟩
  obtain ⟨a3, e5⟩ : ∃ a : Int32, xs 5 = a := ⟨_, rfl⟩
  obtain ⟨a4, e6⟩ : ∃ a : Int32, xs 6 = a := ⟨_, rfl⟩
  by_cases c0 : a0.toInt < 0
  · exact lc4_0 hl nm hx e2 c0 (o_32 dg) (o_277b dg)
  · by_cases c1 : a0.toInt < 32
    · have n_a0 : a0.toNatClampNeg < 32 := nc_lt (by omega) (by decide)
      exact lc4_1 hl nm hx e2 c0 c1 (o_32 dg) (o_33 dg) (o_170 dg) (o_sh dg a0.toNatClampNeg n_a0) (o_166 dg) (o_277b dg) (oMR (dg := dg) (k := 2) rfl) (oMR (dg := dg) (k := 4) rfl)
    · exact lc4_2 hl nm hx e2 c0 c1 (o_32 dg) (o_277b dg)
set_option maxRecDepth 10000 in
theorem q3822 {l : Launch} {E : EE} (hl : l.stackTraces = false) {h : HP} {a0 : Int32} (o3788 : ob h 32 = some (.inr (14, [.ref 33, .ref 162, .ref 166, .int (0 : Int32), .int (0 : Int32), .int (0 : Int32), .ref 167, .ref 170, .ref 173, .ref 177, .ref 193, .ref 208, .ref 222, .ref 238, .ref 252, .ref 274, .ref 275, .ref 276, .int (0 : Int32)]))) (o3789 : ob h 166 = some (.inl (2, 65536, .inl (fun _ => 0)))) : en_C l E M_X11_layOnTape 0 0 0 [.ref 32, .int a0] h (pF none [166, 32] h (fun h' => ob h' 166 = some (.inl (2, 65536, .inl (upd (upd (upd (upd (fun _ => 0) 0 (vp_nar .byte (((a0.toUInt32 >>> ((Int32.ofInt 24).toUInt32 &&& Int32.toUInt32 31)).toInt32).toInt8.toInt32))) 1 (vp_nar .byte (((a0.toUInt32 >>> ((Int32.ofInt 16).toUInt32 &&& Int32.toUInt32 31)).toInt32).toInt8.toInt32))) 2 (vp_nar .byte (((a0.toUInt32 >>> ((Int32.ofInt 8).toUInt32 &&& Int32.toUInt32 31)).toInt32).toInt8.toInt32))) 3 (vp_nar .byte (((a0.toUInt32 >>> ((Int32.ofInt 0).toUInt32 &&& Int32.toUInt32 31)).toInt32).toInt8.toInt32))))) ∧ ob h' 32 = some (.inr (14, [.ref 33, .ref 162, .ref 166, .int (Int32.ofInt 4), .int (0 : Int32), .int (0 : Int32), .ref 167, .ref 170, .ref 173, .ref 177, .ref 193, .ref 208, .ref 222, .ref 238, .ref 252, .ref 274, .ref 275, .ref 276, .int (0 : Int32)])) ∧ True)) := by
  refine en_mk m_X11_layOnTape rfl hl (Nat.le_of_ble_eq_true rfl) ?_
  refine x_bipush (M := M_X11_layOnTape) dX11_layOnTape_0 ?_
  refine x_top (M := M_X11_layOnTape) (y := (Int32.ofInt 24)) (by decide +kernel) ?_
  refine x_istore_n (M := M_X11_layOnTape) dX11_layOnTape_2 (Nat.le_of_ble_eq_true rfl) rfl ?_
  refine x_iload_n (M := M_X11_layOnTape) dX11_layOnTape_3 rfl ?_
  refine x_if_lt (M := M_X11_layOnTape) (tgt := 45) dX11_layOnTape_4 (by decide) (fun q => absurd q (by decide +kernel)) (fun _ => ?_)
  refine x_aload_n (M := M_X11_layOnTape) dX11_layOnTape_7 rfl ?_
  refine x_getf (M := M_X11_layOnTape) (ci := 14) (C := RX11) (T := TX11) (N := 19) (ty := tyX11) cl14 dX11_layOnTape_8 o3788 3 (by decide) t_566 (v := .int (0 : Int32)) rfl ?_
  refine x_ldc (M := M_X11_layOnTape) dX11_layOnTape_11 t_98 ?_
  refine x_icmp_ge (M := M_X11_layOnTape) (tgt := 45) dX11_layOnTape_13 (by decide) (fun q => absurd q (by decide +kernel)) (fun _ => ?_)
  refine x_aload_n (M := M_X11_layOnTape) dX11_layOnTape_16 rfl ?_
  refine x_getf (M := M_X11_layOnTape) (ci := 14) (C := RX11) (T := TX11) (N := 19) (ty := tyX11) cl14 dX11_layOnTape_17 o3788 2 (by decide) t_565 (v := .ref 166) rfl ?_
  refine x_aload_n (M := M_X11_layOnTape) dX11_layOnTape_20 rfl ?_
  refine x_getf (M := M_X11_layOnTape) (ci := 14) (C := RX11) (T := TX11) (N := 19) (ty := tyX11) cl14 dX11_layOnTape_21 o3788 3 (by decide) t_566 (v := .int (0 : Int32)) rfl ?_
  refine x_iload_n (M := M_X11_layOnTape) dX11_layOnTape_24 rfl ?_
  refine x_iload_n (M := M_X11_layOnTape) dX11_layOnTape_25 rfl ?_
  refine x_iushr (M := M_X11_layOnTape) dX11_layOnTape_26 ?_
  refine x_i2b (M := M_X11_layOnTape) dX11_layOnTape_27 ?_
  refine x_norm (M := M_X11_layOnTape) (st' := [.int (((a0.toUInt32 >>> ((Int32.ofInt 24).toUInt32 &&& Int32.toUInt32 31)).toInt32).toInt8.toInt32), .int (Int32.ofInt 0), .ref 166]) rfl (v_cons (vi_cons (by decide +kernel : (0 : Int32) = (Int32.ofInt 0)) rfl)) rfl rfl rfl ?_
  refine y_bast (M := M_X11_layOnTape) (k := 0) dX11_layOnTape_28 o3789 (vp_inD (by decide +kernel)) (by decide +kernel) (fun h3790 w3791 f3792 => ?_)
  refine x_aload_n (M := M_X11_layOnTape) dX11_layOnTape_29 rfl ?_
  refine x_dup (M := M_X11_layOnTape) dX11_layOnTape_30 rfl ?_
  have o3793 := (f3792 32 _ (by decide) o3788)
  refine x_getf (M := M_X11_layOnTape) (ci := 14) (C := RX11) (T := TX11) (N := 19) (ty := tyX11) cl14 dX11_layOnTape_31 o3793 3 (by decide) t_566 (v := .int (0 : Int32)) rfl ?_
  refine x_iconst (M := M_X11_layOnTape) dX11_layOnTape_34 ?_
  refine x_iadd (M := M_X11_layOnTape) dX11_layOnTape_35 ?_
  refine x_top (M := M_X11_layOnTape) (y := (Int32.ofInt 1)) (by decide +kernel) ?_
  refine y_put (M := M_X11_layOnTape) (ci := 14) (C := RX11) (T := TX11) (N := 19) (ty := tyX11) cl14 dX11_layOnTape_36 o3793 3 (by decide) t_566 (Or.inl rfl) (Nat.le_of_ble_eq_true rfl) rfl (fun h3794 (w3795 : ob h3794 32 = some (.inr (14, [.ref 33, .ref 162, .ref 166, .int (Int32.ofInt 1), .int (0 : Int32), .int (0 : Int32), .ref 167, .ref 170, .ref 173, .ref 177, .ref 193, .ref 208, .ref 222, .ref 238, .ref 252, .ref 274, .ref 275, .ref 276, .int (0 : Int32)]))) f3796 => ?_)
  refine x_iinc (M := M_X11_layOnTape) dX11_layOnTape_39 rfl (Nat.le_of_ble_eq_true rfl) rfl ?_
  refine x_lvs (M := M_X11_layOnTape) (lv' := [some (.ref 32), some (.int a0), some (.int (Int32.ofInt 16))]) (by rw [(by decide +kernel : (Int32.ofInt 24) + Int32.ofInt (-8) = (Int32.ofInt 16))] <;> rfl) ?_
  refine x_goto (M := M_X11_layOnTape) (tgt := 3) dX11_layOnTape_42 (by decide) ?_
  refine x_iload_n (M := M_X11_layOnTape) dX11_layOnTape_3 rfl ?_
  refine x_if_lt (M := M_X11_layOnTape) (tgt := 45) dX11_layOnTape_4 (by decide) (fun q => absurd q (by decide +kernel)) (fun _ => ?_)
  refine x_aload_n (M := M_X11_layOnTape) dX11_layOnTape_7 rfl ?_
  refine x_getf (M := M_X11_layOnTape) (ci := 14) (C := RX11) (T := TX11) (N := 19) (ty := tyX11) cl14 dX11_layOnTape_8 w3795 3 (by decide) t_566 (v := .int (Int32.ofInt 1)) rfl ?_
  refine x_ldc (M := M_X11_layOnTape) dX11_layOnTape_11 t_98 ?_
  refine x_icmp_ge (M := M_X11_layOnTape) (tgt := 45) dX11_layOnTape_13 (by decide) (fun q => absurd q (by decide +kernel)) (fun _ => ?_)
  refine x_aload_n (M := M_X11_layOnTape) dX11_layOnTape_16 rfl ?_
  refine x_getf (M := M_X11_layOnTape) (ci := 14) (C := RX11) (T := TX11) (N := 19) (ty := tyX11) cl14 dX11_layOnTape_17 w3795 2 (by decide) t_565 (v := .ref 166) rfl ?_
  refine x_aload_n (M := M_X11_layOnTape) dX11_layOnTape_20 rfl ?_
  refine x_getf (M := M_X11_layOnTape) (ci := 14) (C := RX11) (T := TX11) (N := 19) (ty := tyX11) cl14 dX11_layOnTape_21 w3795 3 (by decide) t_566 (v := .int (Int32.ofInt 1)) rfl ?_
  refine x_iload_n (M := M_X11_layOnTape) dX11_layOnTape_24 rfl ?_
  refine x_iload_n (M := M_X11_layOnTape) dX11_layOnTape_25 rfl ?_
  refine x_iushr (M := M_X11_layOnTape) dX11_layOnTape_26 ?_
  refine x_i2b (M := M_X11_layOnTape) dX11_layOnTape_27 ?_
  have o3797 := (f3796 166 _ (by decide) w3791)
  refine y_bast (M := M_X11_layOnTape) (k := 1) dX11_layOnTape_28 o3797 (vp_inD (by decide +kernel)) (by decide +kernel) (fun h3798 w3799 f3800 => ?_)
  refine x_aload_n (M := M_X11_layOnTape) dX11_layOnTape_29 rfl ?_
  refine x_dup (M := M_X11_layOnTape) dX11_layOnTape_30 rfl ?_
  have o3801 := (f3800 32 _ (by decide) w3795)
  refine x_getf (M := M_X11_layOnTape) (ci := 14) (C := RX11) (T := TX11) (N := 19) (ty := tyX11) cl14 dX11_layOnTape_31 o3801 3 (by decide) t_566 (v := .int (Int32.ofInt 1)) rfl ?_
  refine x_iconst (M := M_X11_layOnTape) dX11_layOnTape_34 ?_
  refine x_iadd (M := M_X11_layOnTape) dX11_layOnTape_35 ?_
  refine x_top (M := M_X11_layOnTape) (y := (Int32.ofInt 2)) (by decide +kernel) ?_
  refine y_put (M := M_X11_layOnTape) (ci := 14) (C := RX11) (T := TX11) (N := 19) (ty := tyX11) cl14 dX11_layOnTape_36 o3801 3 (by decide) t_566 (Or.inl rfl) (Nat.le_of_ble_eq_true rfl) rfl (fun h3802 (w3803 : ob h3802 32 = some (.inr (14, [.ref 33, .ref 162, .ref 166, .int (Int32.ofInt 2), .int (0 : Int32), .int (0 : Int32), .ref 167, .ref 170, .ref 173, .ref 177, .ref 193, .ref 208, .ref 222, .ref 238, .ref 252, .ref 274, .ref 275, .ref 276, .int (0 : Int32)]))) f3804 => ?_)
  refine x_iinc (M := M_X11_layOnTape) dX11_layOnTape_39 rfl (Nat.le_of_ble_eq_true rfl) rfl ?_
  refine x_lvs (M := M_X11_layOnTape) (lv' := [some (.ref 32), some (.int a0), some (.int (Int32.ofInt 8))]) (by rw [(by decide +kernel : (Int32.ofInt 16) + Int32.ofInt (-8) = (Int32.ofInt 8))] <;> rfl) ?_
  refine x_goto (M := M_X11_layOnTape) (tgt := 3) dX11_layOnTape_42 (by decide) ?_
  refine x_iload_n (M := M_X11_layOnTape) dX11_layOnTape_3 rfl ?_
  refine x_if_lt (M := M_X11_layOnTape) (tgt := 45) dX11_layOnTape_4 (by decide) (fun q => absurd q (by decide +kernel)) (fun _ => ?_)
  refine x_aload_n (M := M_X11_layOnTape) dX11_layOnTape_7 rfl ?_
  refine x_getf (M := M_X11_layOnTape) (ci := 14) (C := RX11) (T := TX11) (N := 19) (ty := tyX11) cl14 dX11_layOnTape_8 w3803 3 (by decide) t_566 (v := .int (Int32.ofInt 2)) rfl ?_
  refine x_ldc (M := M_X11_layOnTape) dX11_layOnTape_11 t_98 ?_
  refine x_icmp_ge (M := M_X11_layOnTape) (tgt := 45) dX11_layOnTape_13 (by decide) (fun q => absurd q (by decide +kernel)) (fun _ => ?_)
  refine x_aload_n (M := M_X11_layOnTape) dX11_layOnTape_16 rfl ?_
  refine x_getf (M := M_X11_layOnTape) (ci := 14) (C := RX11) (T := TX11) (N := 19) (ty := tyX11) cl14 dX11_layOnTape_17 w3803 2 (by decide) t_565 (v := .ref 166) rfl ?_
  refine x_aload_n (M := M_X11_layOnTape) dX11_layOnTape_20 rfl ?_
  refine x_getf (M := M_X11_layOnTape) (ci := 14) (C := RX11) (T := TX11) (N := 19) (ty := tyX11) cl14 dX11_layOnTape_21 w3803 3 (by decide) t_566 (v := .int (Int32.ofInt 2)) rfl ?_
  refine x_iload_n (M := M_X11_layOnTape) dX11_layOnTape_24 rfl ?_
  refine x_iload_n (M := M_X11_layOnTape) dX11_layOnTape_25 rfl ?_
  refine x_iushr (M := M_X11_layOnTape) dX11_layOnTape_26 ?_
  refine x_i2b (M := M_X11_layOnTape) dX11_layOnTape_27 ?_
  have o3805 := (f3804 166 _ (by decide) w3799)
  refine y_bast (M := M_X11_layOnTape) (k := 2) dX11_layOnTape_28 o3805 (vp_inD (by decide +kernel)) (by decide +kernel) (fun h3806 w3807 f3808 => ?_)
  refine x_aload_n (M := M_X11_layOnTape) dX11_layOnTape_29 rfl ?_
  refine x_dup (M := M_X11_layOnTape) dX11_layOnTape_30 rfl ?_
  have o3809 := (f3808 32 _ (by decide) w3803)
  refine x_getf (M := M_X11_layOnTape) (ci := 14) (C := RX11) (T := TX11) (N := 19) (ty := tyX11) cl14 dX11_layOnTape_31 o3809 3 (by decide) t_566 (v := .int (Int32.ofInt 2)) rfl ?_
  refine x_iconst (M := M_X11_layOnTape) dX11_layOnTape_34 ?_
  refine x_iadd (M := M_X11_layOnTape) dX11_layOnTape_35 ?_
  refine x_top (M := M_X11_layOnTape) (y := (Int32.ofInt 3)) (by decide +kernel) ?_
  refine y_put (M := M_X11_layOnTape) (ci := 14) (C := RX11) (T := TX11) (N := 19) (ty := tyX11) cl14 dX11_layOnTape_36 o3809 3 (by decide) t_566 (Or.inl rfl) (Nat.le_of_ble_eq_true rfl) rfl (fun h3810 (w3811 : ob h3810 32 = some (.inr (14, [.ref 33, .ref 162, .ref 166, .int (Int32.ofInt 3), .int (0 : Int32), .int (0 : Int32), .ref 167, .ref 170, .ref 173, .ref 177, .ref 193, .ref 208, .ref 222, .ref 238, .ref 252, .ref 274, .ref 275, .ref 276, .int (0 : Int32)]))) f3812 => ?_)
  refine x_iinc (M := M_X11_layOnTape) dX11_layOnTape_39 rfl (Nat.le_of_ble_eq_true rfl) rfl ?_
  refine x_lvs (M := M_X11_layOnTape) (lv' := [some (.ref 32), some (.int a0), some (.int (Int32.ofInt 0))]) (by rw [(by decide +kernel : (Int32.ofInt 8) + Int32.ofInt (-8) = (Int32.ofInt 0))] <;> rfl) ?_
  refine x_goto (M := M_X11_layOnTape) (tgt := 3) dX11_layOnTape_42 (by decide) ?_
  refine x_iload_n (M := M_X11_layOnTape) dX11_layOnTape_3 rfl ?_
  refine x_if_lt (M := M_X11_layOnTape) (tgt := 45) dX11_layOnTape_4 (by decide) (fun q => absurd q (by decide +kernel)) (fun _ => ?_)
  refine x_aload_n (M := M_X11_layOnTape) dX11_layOnTape_7 rfl ?_
  refine x_getf (M := M_X11_layOnTape) (ci := 14) (C := RX11) (T := TX11) (N := 19) (ty := tyX11) cl14 dX11_layOnTape_8 w3811 3 (by decide) t_566 (v := .int (Int32.ofInt 3)) rfl ?_
  refine x_ldc (M := M_X11_layOnTape) dX11_layOnTape_11 t_98 ?_
  refine x_icmp_ge (M := M_X11_layOnTape) (tgt := 45) dX11_layOnTape_13 (by decide) (fun q => absurd q (by decide +kernel)) (fun _ => ?_)
  refine x_aload_n (M := M_X11_layOnTape) dX11_layOnTape_16 rfl ?_
  refine x_getf (M := M_X11_layOnTape) (ci := 14) (C := RX11) (T := TX11) (N := 19) (ty := tyX11) cl14 dX11_layOnTape_17 w3811 2 (by decide) t_565 (v := .ref 166) rfl ?_
  refine x_aload_n (M := M_X11_layOnTape) dX11_layOnTape_20 rfl ?_
  refine x_getf (M := M_X11_layOnTape) (ci := 14) (C := RX11) (T := TX11) (N := 19) (ty := tyX11) cl14 dX11_layOnTape_21 w3811 3 (by decide) t_566 (v := .int (Int32.ofInt 3)) rfl ?_
  refine x_iload_n (M := M_X11_layOnTape) dX11_layOnTape_24 rfl ?_
  refine x_iload_n (M := M_X11_layOnTape) dX11_layOnTape_25 rfl ?_
  refine x_iushr (M := M_X11_layOnTape) dX11_layOnTape_26 ?_
  refine x_i2b (M := M_X11_layOnTape) dX11_layOnTape_27 ?_
  have o3813 := (f3812 166 _ (by decide) w3807)
  refine y_bast (M := M_X11_layOnTape) (k := 3) dX11_layOnTape_28 o3813 (vp_inD (by decide +kernel)) (by decide +kernel) (fun h3814 w3815 f3816 => ?_)
  refine x_aload_n (M := M_X11_layOnTape) dX11_layOnTape_29 rfl ?_
  refine x_dup (M := M_X11_layOnTape) dX11_layOnTape_30 rfl ?_
  have o3817 := (f3816 32 _ (by decide) w3811)
  refine x_getf (M := M_X11_layOnTape) (ci := 14) (C := RX11) (T := TX11) (N := 19) (ty := tyX11) cl14 dX11_layOnTape_31 o3817 3 (by decide) t_566 (v := .int (Int32.ofInt 3)) rfl ?_
  refine x_iconst (M := M_X11_layOnTape) dX11_layOnTape_34 ?_
  refine x_iadd (M := M_X11_layOnTape) dX11_layOnTape_35 ?_
  refine x_top (M := M_X11_layOnTape) (y := (Int32.ofInt 4)) (by decide +kernel) ?_
  refine y_put (M := M_X11_layOnTape) (ci := 14) (C := RX11) (T := TX11) (N := 19) (ty := tyX11) cl14 dX11_layOnTape_36 o3817 3 (by decide) t_566 (Or.inl rfl) (Nat.le_of_ble_eq_true rfl) rfl (fun h3818 (w3819 : ob h3818 32 = some (.inr (14, [.ref 33, .ref 162, .ref 166, .int (Int32.ofInt 4), .int (0 : Int32), .int (0 : Int32), .ref 167, .ref 170, .ref 173, .ref 177, .ref 193, .ref 208, .ref 222, .ref 238, .ref 252, .ref 274, .ref 275, .ref 276, .int (0 : Int32)]))) f3820 => ?_)
  refine x_iinc (M := M_X11_layOnTape) dX11_layOnTape_39 rfl (Nat.le_of_ble_eq_true rfl) rfl ?_
  refine x_lvs (M := M_X11_layOnTape) (lv' := [some (.ref 32), some (.int a0), some (.int (Int32.ofInt (-8)))]) (by rw [(by decide +kernel : (Int32.ofInt 0) + Int32.ofInt (-8) = (Int32.ofInt (-8)))] <;> rfl) ?_
  refine x_goto (M := M_X11_layOnTape) (tgt := 3) dX11_layOnTape_42 (by decide) ?_
  refine x_iload_n (M := M_X11_layOnTape) dX11_layOnTape_3 rfl ?_
  refine x_if_lt (M := M_X11_layOnTape) (tgt := 45) dX11_layOnTape_4 (by decide) (fun _ => ?_) (fun q => absurd q (by decide +kernel))
  have o3821 := (f3820 166 _ (by decide) w3815)
  exact x_vret (M := M_X11_layOnTape) dX11_layOnTape_45 rfl ⟨rfl, (fr_tr f3820 (by decide) (fr_tr f3816 (by decide) (fr_tr f3812 (by decide) (fr_tr f3808 (by decide) (fr_tr f3804 (by decide) (fr_tr f3800 (by decide) (fr_tr f3796 (by decide) (fr_tr f3792 (by decide) fr_rf)))))))), ⟨o3821, w3819, trivial⟩⟩ (Nat.le_of_ble_eq_true rfl) (Nat.le_of_ble_eq_true rfl)
set_option maxRecDepth 10000 in
theorem q3863 {l : Launch} {E : EE} (hl : l.stackTraces = false) {h : HP} {a0 : Int32} {a1 : Int32} (o3829 : ob h 32 = some (.inr (14, [.ref 33, .ref 162, .ref 166, .int (Int32.ofInt 4), .int (0 : Int32), .int (0 : Int32), .ref 167, .ref 170, .ref 173, .ref 177, .ref 193, .ref 208, .ref 222, .ref 238, .ref 252, .ref 274, .ref 275, .ref 276, .int (0 : Int32)]))) (o3830 : ob h 166 = some (.inl (2, 65536, .inl (upd (upd (upd (upd (fun _ => 0) 0 (vp_nar .byte (((a0.toUInt32 >>> ((Int32.ofInt 24).toUInt32 &&& Int32.toUInt32 31)).toInt32).toInt8.toInt32))) 1 (vp_nar .byte (((a0.toUInt32 >>> ((Int32.ofInt 16).toUInt32 &&& Int32.toUInt32 31)).toInt32).toInt8.toInt32))) 2 (vp_nar .byte (((a0.toUInt32 >>> ((Int32.ofInt 8).toUInt32 &&& Int32.toUInt32 31)).toInt32).toInt8.toInt32))) 3 (vp_nar .byte (((a0.toUInt32 >>> ((Int32.ofInt 0).toUInt32 &&& Int32.toUInt32 31)).toInt32).toInt8.toInt32)))))) : en_C l E M_X11_layOnTape 0 0 0 [.ref 32, .int a1] h (pF none [166, 32] h (fun h' => ob h' 166 = some (.inl (2, 65536, .inl (upd (upd (upd (upd (upd (upd (upd (upd (fun _ => 0) 0 (vp_nar .byte (((a0.toUInt32 >>> ((Int32.ofInt 24).toUInt32 &&& Int32.toUInt32 31)).toInt32).toInt8.toInt32))) 1 (vp_nar .byte (((a0.toUInt32 >>> ((Int32.ofInt 16).toUInt32 &&& Int32.toUInt32 31)).toInt32).toInt8.toInt32))) 2 (vp_nar .byte (((a0.toUInt32 >>> ((Int32.ofInt 8).toUInt32 &&& Int32.toUInt32 31)).toInt32).toInt8.toInt32))) 3 (vp_nar .byte (((a0.toUInt32 >>> ((Int32.ofInt 0).toUInt32 &&& Int32.toUInt32 31)).toInt32).toInt8.toInt32))) 4 (vp_nar .byte (((a1.toUInt32 >>> ((Int32.ofInt 24).toUInt32 &&& Int32.toUInt32 31)).toInt32).toInt8.toInt32))) 5 (vp_nar .byte (((a1.toUInt32 >>> ((Int32.ofInt 16).toUInt32 &&& Int32.toUInt32 31)).toInt32).toInt8.toInt32))) 6 (vp_nar .byte (((a1.toUInt32 >>> ((Int32.ofInt 8).toUInt32 &&& Int32.toUInt32 31)).toInt32).toInt8.toInt32))) 7 (vp_nar .byte (((a1.toUInt32 >>> ((Int32.ofInt 0).toUInt32 &&& Int32.toUInt32 31)).toInt32).toInt8.toInt32))))) ∧ ob h' 32 = some (.inr (14, [.ref 33, .ref 162, .ref 166, .int (Int32.ofInt 8), .int (0 : Int32), .int (0 : Int32), .ref 167, .ref 170, .ref 173, .ref 177, .ref 193, .ref 208, .ref 222, .ref 238, .ref 252, .ref 274, .ref 275, .ref 276, .int (0 : Int32)])) ∧ True)) := by
  refine en_mk m_X11_layOnTape rfl hl (Nat.le_of_ble_eq_true rfl) ?_
  refine x_bipush (M := M_X11_layOnTape) dX11_layOnTape_0 ?_
  refine x_top (M := M_X11_layOnTape) (y := (Int32.ofInt 24)) (by decide +kernel) ?_
  refine x_istore_n (M := M_X11_layOnTape) dX11_layOnTape_2 (Nat.le_of_ble_eq_true rfl) rfl ?_
  refine x_iload_n (M := M_X11_layOnTape) dX11_layOnTape_3 rfl ?_
  refine x_if_lt (M := M_X11_layOnTape) (tgt := 45) dX11_layOnTape_4 (by decide) (fun q => absurd q (by decide +kernel)) (fun _ => ?_)
  refine x_aload_n (M := M_X11_layOnTape) dX11_layOnTape_7 rfl ?_
  refine x_getf (M := M_X11_layOnTape) (ci := 14) (C := RX11) (T := TX11) (N := 19) (ty := tyX11) cl14 dX11_layOnTape_8 o3829 3 (by decide) t_566 (v := .int (Int32.ofInt 4)) rfl ?_
  refine x_ldc (M := M_X11_layOnTape) dX11_layOnTape_11 t_98 ?_
  refine x_icmp_ge (M := M_X11_layOnTape) (tgt := 45) dX11_layOnTape_13 (by decide) (fun q => absurd q (by decide +kernel)) (fun _ => ?_)
  refine x_aload_n (M := M_X11_layOnTape) dX11_layOnTape_16 rfl ?_
  refine x_getf (M := M_X11_layOnTape) (ci := 14) (C := RX11) (T := TX11) (N := 19) (ty := tyX11) cl14 dX11_layOnTape_17 o3829 2 (by decide) t_565 (v := .ref 166) rfl ?_
  refine x_aload_n (M := M_X11_layOnTape) dX11_layOnTape_20 rfl ?_
  refine x_getf (M := M_X11_layOnTape) (ci := 14) (C := RX11) (T := TX11) (N := 19) (ty := tyX11) cl14 dX11_layOnTape_21 o3829 3 (by decide) t_566 (v := .int (Int32.ofInt 4)) rfl ?_
  refine x_iload_n (M := M_X11_layOnTape) dX11_layOnTape_24 rfl ?_
  refine x_iload_n (M := M_X11_layOnTape) dX11_layOnTape_25 rfl ?_
  refine x_iushr (M := M_X11_layOnTape) dX11_layOnTape_26 ?_
  refine x_i2b (M := M_X11_layOnTape) dX11_layOnTape_27 ?_
  refine y_bast (M := M_X11_layOnTape) (k := 4) dX11_layOnTape_28 o3830 (vp_inD (by decide +kernel)) (by decide +kernel) (fun h3831 w3832 f3833 => ?_)
  refine x_aload_n (M := M_X11_layOnTape) dX11_layOnTape_29 rfl ?_
  refine x_dup (M := M_X11_layOnTape) dX11_layOnTape_30 rfl ?_
  have o3834 := (f3833 32 _ (by decide) o3829)
  refine x_getf (M := M_X11_layOnTape) (ci := 14) (C := RX11) (T := TX11) (N := 19) (ty := tyX11) cl14 dX11_layOnTape_31 o3834 3 (by decide) t_566 (v := .int (Int32.ofInt 4)) rfl ?_
  refine x_iconst (M := M_X11_layOnTape) dX11_layOnTape_34 ?_
  refine x_iadd (M := M_X11_layOnTape) dX11_layOnTape_35 ?_
  refine x_top (M := M_X11_layOnTape) (y := (Int32.ofInt 5)) (by decide +kernel) ?_
  refine y_put (M := M_X11_layOnTape) (ci := 14) (C := RX11) (T := TX11) (N := 19) (ty := tyX11) cl14 dX11_layOnTape_36 o3834 3 (by decide) t_566 (Or.inl rfl) (Nat.le_of_ble_eq_true rfl) rfl (fun h3835 (w3836 : ob h3835 32 = some (.inr (14, [.ref 33, .ref 162, .ref 166, .int (Int32.ofInt 5), .int (0 : Int32), .int (0 : Int32), .ref 167, .ref 170, .ref 173, .ref 177, .ref 193, .ref 208, .ref 222, .ref 238, .ref 252, .ref 274, .ref 275, .ref 276, .int (0 : Int32)]))) f3837 => ?_)
  refine x_iinc (M := M_X11_layOnTape) dX11_layOnTape_39 rfl (Nat.le_of_ble_eq_true rfl) rfl ?_
  refine x_lvs (M := M_X11_layOnTape) (lv' := [some (.ref 32), some (.int a1), some (.int (Int32.ofInt 16))]) (by rw [(by decide +kernel : (Int32.ofInt 24) + Int32.ofInt (-8) = (Int32.ofInt 16))] <;> rfl) ?_
  refine x_goto (M := M_X11_layOnTape) (tgt := 3) dX11_layOnTape_42 (by decide) ?_
  refine x_iload_n (M := M_X11_layOnTape) dX11_layOnTape_3 rfl ?_
  refine x_if_lt (M := M_X11_layOnTape) (tgt := 45) dX11_layOnTape_4 (by decide) (fun q => absurd q (by decide +kernel)) (fun _ => ?_)
  refine x_aload_n (M := M_X11_layOnTape) dX11_layOnTape_7 rfl ?_
  refine x_getf (M := M_X11_layOnTape) (ci := 14) (C := RX11) (T := TX11) (N := 19) (ty := tyX11) cl14 dX11_layOnTape_8 w3836 3 (by decide) t_566 (v := .int (Int32.ofInt 5)) rfl ?_
  refine x_ldc (M := M_X11_layOnTape) dX11_layOnTape_11 t_98 ?_
  refine x_icmp_ge (M := M_X11_layOnTape) (tgt := 45) dX11_layOnTape_13 (by decide) (fun q => absurd q (by decide +kernel)) (fun _ => ?_)
  refine x_aload_n (M := M_X11_layOnTape) dX11_layOnTape_16 rfl ?_
  refine x_getf (M := M_X11_layOnTape) (ci := 14) (C := RX11) (T := TX11) (N := 19) (ty := tyX11) cl14 dX11_layOnTape_17 w3836 2 (by decide) t_565 (v := .ref 166) rfl ?_
  refine x_aload_n (M := M_X11_layOnTape) dX11_layOnTape_20 rfl ?_
  refine x_getf (M := M_X11_layOnTape) (ci := 14) (C := RX11) (T := TX11) (N := 19) (ty := tyX11) cl14 dX11_layOnTape_21 w3836 3 (by decide) t_566 (v := .int (Int32.ofInt 5)) rfl ?_
  refine x_iload_n (M := M_X11_layOnTape) dX11_layOnTape_24 rfl ?_
  refine x_iload_n (M := M_X11_layOnTape) dX11_layOnTape_25 rfl ?_
  refine x_iushr (M := M_X11_layOnTape) dX11_layOnTape_26 ?_
  refine x_i2b (M := M_X11_layOnTape) dX11_layOnTape_27 ?_
  have o3838 := (f3837 166 _ (by decide) w3832)
  refine y_bast (M := M_X11_layOnTape) (k := 5) dX11_layOnTape_28 o3838 (vp_inD (by decide +kernel)) (by decide +kernel) (fun h3839 w3840 f3841 => ?_)
  refine x_aload_n (M := M_X11_layOnTape) dX11_layOnTape_29 rfl ?_
  refine x_dup (M := M_X11_layOnTape) dX11_layOnTape_30 rfl ?_
  have o3842 := (f3841 32 _ (by decide) w3836)
  refine x_getf (M := M_X11_layOnTape) (ci := 14) (C := RX11) (T := TX11) (N := 19) (ty := tyX11) cl14 dX11_layOnTape_31 o3842 3 (by decide) t_566 (v := .int (Int32.ofInt 5)) rfl ?_
  refine x_iconst (M := M_X11_layOnTape) dX11_layOnTape_34 ?_
  refine x_iadd (M := M_X11_layOnTape) dX11_layOnTape_35 ?_
  refine x_top (M := M_X11_layOnTape) (y := (Int32.ofInt 6)) (by decide +kernel) ?_
  refine y_put (M := M_X11_layOnTape) (ci := 14) (C := RX11) (T := TX11) (N := 19) (ty := tyX11) cl14 dX11_layOnTape_36 o3842 3 (by decide) t_566 (Or.inl rfl) (Nat.le_of_ble_eq_true rfl) rfl (fun h3843 (w3844 : ob h3843 32 = some (.inr (14, [.ref 33, .ref 162, .ref 166, .int (Int32.ofInt 6), .int (0 : Int32), .int (0 : Int32), .ref 167, .ref 170, .ref 173, .ref 177, .ref 193, .ref 208, .ref 222, .ref 238, .ref 252, .ref 274, .ref 275, .ref 276, .int (0 : Int32)]))) f3845 => ?_)
  refine x_iinc (M := M_X11_layOnTape) dX11_layOnTape_39 rfl (Nat.le_of_ble_eq_true rfl) rfl ?_
  refine x_lvs (M := M_X11_layOnTape) (lv' := [some (.ref 32), some (.int a1), some (.int (Int32.ofInt 8))]) (by rw [(by decide +kernel : (Int32.ofInt 16) + Int32.ofInt (-8) = (Int32.ofInt 8))] <;> rfl) ?_
  refine x_goto (M := M_X11_layOnTape) (tgt := 3) dX11_layOnTape_42 (by decide) ?_
  refine x_iload_n (M := M_X11_layOnTape) dX11_layOnTape_3 rfl ?_
  refine x_if_lt (M := M_X11_layOnTape) (tgt := 45) dX11_layOnTape_4 (by decide) (fun q => absurd q (by decide +kernel)) (fun _ => ?_)
  refine x_aload_n (M := M_X11_layOnTape) dX11_layOnTape_7 rfl ?_
  refine x_getf (M := M_X11_layOnTape) (ci := 14) (C := RX11) (T := TX11) (N := 19) (ty := tyX11) cl14 dX11_layOnTape_8 w3844 3 (by decide) t_566 (v := .int (Int32.ofInt 6)) rfl ?_
  refine x_ldc (M := M_X11_layOnTape) dX11_layOnTape_11 t_98 ?_
  refine x_icmp_ge (M := M_X11_layOnTape) (tgt := 45) dX11_layOnTape_13 (by decide) (fun q => absurd q (by decide +kernel)) (fun _ => ?_)
  refine x_aload_n (M := M_X11_layOnTape) dX11_layOnTape_16 rfl ?_
  refine x_getf (M := M_X11_layOnTape) (ci := 14) (C := RX11) (T := TX11) (N := 19) (ty := tyX11) cl14 dX11_layOnTape_17 w3844 2 (by decide) t_565 (v := .ref 166) rfl ?_
  refine x_aload_n (M := M_X11_layOnTape) dX11_layOnTape_20 rfl ?_
  refine x_getf (M := M_X11_layOnTape) (ci := 14) (C := RX11) (T := TX11) (N := 19) (ty := tyX11) cl14 dX11_layOnTape_21 w3844 3 (by decide) t_566 (v := .int (Int32.ofInt 6)) rfl ?_
  refine x_iload_n (M := M_X11_layOnTape) dX11_layOnTape_24 rfl ?_
  refine x_iload_n (M := M_X11_layOnTape) dX11_layOnTape_25 rfl ?_
  refine x_iushr (M := M_X11_layOnTape) dX11_layOnTape_26 ?_
  refine x_i2b (M := M_X11_layOnTape) dX11_layOnTape_27 ?_
  have o3846 := (f3845 166 _ (by decide) w3840)
  refine y_bast (M := M_X11_layOnTape) (k := 6) dX11_layOnTape_28 o3846 (vp_inD (by decide +kernel)) (by decide +kernel) (fun h3847 w3848 f3849 => ?_)
  refine x_aload_n (M := M_X11_layOnTape) dX11_layOnTape_29 rfl ?_
  refine x_dup (M := M_X11_layOnTape) dX11_layOnTape_30 rfl ?_
  have o3850 := (f3849 32 _ (by decide) w3844)
  refine x_getf (M := M_X11_layOnTape) (ci := 14) (C := RX11) (T := TX11) (N := 19) (ty := tyX11) cl14 dX11_layOnTape_31 o3850 3 (by decide) t_566 (v := .int (Int32.ofInt 6)) rfl ?_
  refine x_iconst (M := M_X11_layOnTape) dX11_layOnTape_34 ?_
  refine x_iadd (M := M_X11_layOnTape) dX11_layOnTape_35 ?_
  refine x_top (M := M_X11_layOnTape) (y := (Int32.ofInt 7)) (by decide +kernel) ?_
  refine y_put (M := M_X11_layOnTape) (ci := 14) (C := RX11) (T := TX11) (N := 19) (ty := tyX11) cl14 dX11_layOnTape_36 o3850 3 (by decide) t_566 (Or.inl rfl) (Nat.le_of_ble_eq_true rfl) rfl (fun h3851 (w3852 : ob h3851 32 = some (.inr (14, [.ref 33, .ref 162, .ref 166, .int (Int32.ofInt 7), .int (0 : Int32), .int (0 : Int32), .ref 167, .ref 170, .ref 173, .ref 177, .ref 193, .ref 208, .ref 222, .ref 238, .ref 252, .ref 274, .ref 275, .ref 276, .int (0 : Int32)]))) f3853 => ?_)
  refine x_iinc (M := M_X11_layOnTape) dX11_layOnTape_39 rfl (Nat.le_of_ble_eq_true rfl) rfl ?_
  refine x_lvs (M := M_X11_layOnTape) (lv' := [some (.ref 32), some (.int a1), some (.int (Int32.ofInt 0))]) (by rw [(by decide +kernel : (Int32.ofInt 8) + Int32.ofInt (-8) = (Int32.ofInt 0))] <;> rfl) ?_
  refine x_goto (M := M_X11_layOnTape) (tgt := 3) dX11_layOnTape_42 (by decide) ?_
  refine x_iload_n (M := M_X11_layOnTape) dX11_layOnTape_3 rfl ?_
  refine x_if_lt (M := M_X11_layOnTape) (tgt := 45) dX11_layOnTape_4 (by decide) (fun q => absurd q (by decide +kernel)) (fun _ => ?_)
  refine x_aload_n (M := M_X11_layOnTape) dX11_layOnTape_7 rfl ?_
  refine x_getf (M := M_X11_layOnTape) (ci := 14) (C := RX11) (T := TX11) (N := 19) (ty := tyX11) cl14 dX11_layOnTape_8 w3852 3 (by decide) t_566 (v := .int (Int32.ofInt 7)) rfl ?_
  refine x_ldc (M := M_X11_layOnTape) dX11_layOnTape_11 t_98 ?_
  refine x_icmp_ge (M := M_X11_layOnTape) (tgt := 45) dX11_layOnTape_13 (by decide) (fun q => absurd q (by decide +kernel)) (fun _ => ?_)
  refine x_aload_n (M := M_X11_layOnTape) dX11_layOnTape_16 rfl ?_
  refine x_getf (M := M_X11_layOnTape) (ci := 14) (C := RX11) (T := TX11) (N := 19) (ty := tyX11) cl14 dX11_layOnTape_17 w3852 2 (by decide) t_565 (v := .ref 166) rfl ?_
  refine x_aload_n (M := M_X11_layOnTape) dX11_layOnTape_20 rfl ?_
  refine x_getf (M := M_X11_layOnTape) (ci := 14) (C := RX11) (T := TX11) (N := 19) (ty := tyX11) cl14 dX11_layOnTape_21 w3852 3 (by decide) t_566 (v := .int (Int32.ofInt 7)) rfl ?_
  refine x_iload_n (M := M_X11_layOnTape) dX11_layOnTape_24 rfl ?_
  refine x_iload_n (M := M_X11_layOnTape) dX11_layOnTape_25 rfl ?_
  refine x_iushr (M := M_X11_layOnTape) dX11_layOnTape_26 ?_
  refine x_i2b (M := M_X11_layOnTape) dX11_layOnTape_27 ?_
  have o3854 := (f3853 166 _ (by decide) w3848)
  refine y_bast (M := M_X11_layOnTape) (k := 7) dX11_layOnTape_28 o3854 (vp_inD (by decide +kernel)) (by decide +kernel) (fun h3855 w3856 f3857 => ?_)
  refine x_aload_n (M := M_X11_layOnTape) dX11_layOnTape_29 rfl ?_
  refine x_dup (M := M_X11_layOnTape) dX11_layOnTape_30 rfl ?_
  have o3858 := (f3857 32 _ (by decide) w3852)
  refine x_getf (M := M_X11_layOnTape) (ci := 14) (C := RX11) (T := TX11) (N := 19) (ty := tyX11) cl14 dX11_layOnTape_31 o3858 3 (by decide) t_566 (v := .int (Int32.ofInt 7)) rfl ?_
  refine x_iconst (M := M_X11_layOnTape) dX11_layOnTape_34 ?_
  refine x_iadd (M := M_X11_layOnTape) dX11_layOnTape_35 ?_
  refine x_top (M := M_X11_layOnTape) (y := (Int32.ofInt 8)) (by decide +kernel) ?_
  refine y_put (M := M_X11_layOnTape) (ci := 14) (C := RX11) (T := TX11) (N := 19) (ty := tyX11) cl14 dX11_layOnTape_36 o3858 3 (by decide) t_566 (Or.inl rfl) (Nat.le_of_ble_eq_true rfl) rfl (fun h3859 (w3860 : ob h3859 32 = some (.inr (14, [.ref 33, .ref 162, .ref 166, .int (Int32.ofInt 8), .int (0 : Int32), .int (0 : Int32), .ref 167, .ref 170, .ref 173, .ref 177, .ref 193, .ref 208, .ref 222, .ref 238, .ref 252, .ref 274, .ref 275, .ref 276, .int (0 : Int32)]))) f3861 => ?_)
  refine x_iinc (M := M_X11_layOnTape) dX11_layOnTape_39 rfl (Nat.le_of_ble_eq_true rfl) rfl ?_
  refine x_lvs (M := M_X11_layOnTape) (lv' := [some (.ref 32), some (.int a1), some (.int (Int32.ofInt (-8)))]) (by rw [(by decide +kernel : (Int32.ofInt 0) + Int32.ofInt (-8) = (Int32.ofInt (-8)))] <;> rfl) ?_
  refine x_goto (M := M_X11_layOnTape) (tgt := 3) dX11_layOnTape_42 (by decide) ?_
  refine x_iload_n (M := M_X11_layOnTape) dX11_layOnTape_3 rfl ?_
  refine x_if_lt (M := M_X11_layOnTape) (tgt := 45) dX11_layOnTape_4 (by decide) (fun _ => ?_) (fun q => absurd q (by decide +kernel))
  have o3862 := (f3861 166 _ (by decide) w3856)
  exact x_vret (M := M_X11_layOnTape) dX11_layOnTape_45 rfl ⟨rfl, (fr_tr f3861 (by decide) (fr_tr f3857 (by decide) (fr_tr f3853 (by decide) (fr_tr f3849 (by decide) (fr_tr f3845 (by decide) (fr_tr f3841 (by decide) (fr_tr f3837 (by decide) (fr_tr f3833 (by decide) fr_rf)))))))), ⟨o3862, w3860, trivial⟩⟩ (Nat.le_of_ble_eq_true rfl) (Nat.le_of_ble_eq_true rfl)
set_option maxRecDepth 10000 in
theorem q3903 {l : Launch} {E : EE} (hl : l.stackTraces = false) {h : HP} {a0 : Int32} {a1 : Int32} {a2 : Int32} (o3869 : ob h 32 = some (.inr (14, [.ref 33, .ref 162, .ref 166, .int (Int32.ofInt 8), .int (0 : Int32), .int (0 : Int32), .ref 167, .ref 170, .ref 173, .ref 177, .ref 193, .ref 208, .ref 222, .ref 238, .ref 252, .ref 274, .ref 275, .ref 276, .int (0 : Int32)]))) (o3870 : ob h 166 = some (.inl (2, 65536, .inl (upd (upd (upd (upd (upd (upd (upd (upd (fun _ => 0) 0 (vp_nar .byte (((a0.toUInt32 >>> ((Int32.ofInt 24).toUInt32 &&& Int32.toUInt32 31)).toInt32).toInt8.toInt32))) 1 (vp_nar .byte (((a0.toUInt32 >>> ((Int32.ofInt 16).toUInt32 &&& Int32.toUInt32 31)).toInt32).toInt8.toInt32))) 2 (vp_nar .byte (((a0.toUInt32 >>> ((Int32.ofInt 8).toUInt32 &&& Int32.toUInt32 31)).toInt32).toInt8.toInt32))) 3 (vp_nar .byte (((a0.toUInt32 >>> ((Int32.ofInt 0).toUInt32 &&& Int32.toUInt32 31)).toInt32).toInt8.toInt32))) 4 (vp_nar .byte (((a1.toUInt32 >>> ((Int32.ofInt 24).toUInt32 &&& Int32.toUInt32 31)).toInt32).toInt8.toInt32))) 5 (vp_nar .byte (((a1.toUInt32 >>> ((Int32.ofInt 16).toUInt32 &&& Int32.toUInt32 31)).toInt32).toInt8.toInt32))) 6 (vp_nar .byte (((a1.toUInt32 >>> ((Int32.ofInt 8).toUInt32 &&& Int32.toUInt32 31)).toInt32).toInt8.toInt32))) 7 (vp_nar .byte (((a1.toUInt32 >>> ((Int32.ofInt 0).toUInt32 &&& Int32.toUInt32 31)).toInt32).toInt8.toInt32)))))) : en_C l E M_X11_layOnTape 0 0 0 [.ref 32, .int a2] h (pF none [166, 32] h (fun h' => ob h' 166 = some (.inl (2, 65536, .inl (upd (upd (upd (upd (upd (upd (upd (upd (upd (upd (upd (upd (fun _ => 0) 0 (vp_nar .byte (((a0.toUInt32 >>> ((Int32.ofInt 24).toUInt32 &&& Int32.toUInt32 31)).toInt32).toInt8.toInt32))) 1 (vp_nar .byte (((a0.toUInt32 >>> ((Int32.ofInt 16).toUInt32 &&& Int32.toUInt32 31)).toInt32).toInt8.toInt32))) 2 (vp_nar .byte (((a0.toUInt32 >>> ((Int32.ofInt 8).toUInt32 &&& Int32.toUInt32 31)).toInt32).toInt8.toInt32))) 3 (vp_nar .byte (((a0.toUInt32 >>> ((Int32.ofInt 0).toUInt32 &&& Int32.toUInt32 31)).toInt32).toInt8.toInt32))) 4 (vp_nar .byte (((a1.toUInt32 >>> ((Int32.ofInt 24).toUInt32 &&& Int32.toUInt32 31)).toInt32).toInt8.toInt32))) 5 (vp_nar .byte (((a1.toUInt32 >>> ((Int32.ofInt 16).toUInt32 &&& Int32.toUInt32 31)).toInt32).toInt8.toInt32))) 6 (vp_nar .byte (((a1.toUInt32 >>> ((Int32.ofInt 8).toUInt32 &&& Int32.toUInt32 31)).toInt32).toInt8.toInt32))) 7 (vp_nar .byte (((a1.toUInt32 >>> ((Int32.ofInt 0).toUInt32 &&& Int32.toUInt32 31)).toInt32).toInt8.toInt32))) 8 (vp_nar .byte (((a2.toUInt32 >>> ((Int32.ofInt 24).toUInt32 &&& Int32.toUInt32 31)).toInt32).toInt8.toInt32))) 9 (vp_nar .byte (((a2.toUInt32 >>> ((Int32.ofInt 16).toUInt32 &&& Int32.toUInt32 31)).toInt32).toInt8.toInt32))) 10 (vp_nar .byte (((a2.toUInt32 >>> ((Int32.ofInt 8).toUInt32 &&& Int32.toUInt32 31)).toInt32).toInt8.toInt32))) 11 (vp_nar .byte (((a2.toUInt32 >>> ((Int32.ofInt 0).toUInt32 &&& Int32.toUInt32 31)).toInt32).toInt8.toInt32))))) ∧ ob h' 32 = some (.inr (14, [.ref 33, .ref 162, .ref 166, .int (Int32.ofInt 12), .int (0 : Int32), .int (0 : Int32), .ref 167, .ref 170, .ref 173, .ref 177, .ref 193, .ref 208, .ref 222, .ref 238, .ref 252, .ref 274, .ref 275, .ref 276, .int (0 : Int32)])) ∧ True)) := by
  refine en_mk m_X11_layOnTape rfl hl (Nat.le_of_ble_eq_true rfl) ?_
  refine x_bipush (M := M_X11_layOnTape) dX11_layOnTape_0 ?_
  refine x_top (M := M_X11_layOnTape) (y := (Int32.ofInt 24)) (by decide +kernel) ?_
  refine x_istore_n (M := M_X11_layOnTape) dX11_layOnTape_2 (Nat.le_of_ble_eq_true rfl) rfl ?_
  refine x_iload_n (M := M_X11_layOnTape) dX11_layOnTape_3 rfl ?_
  refine x_if_lt (M := M_X11_layOnTape) (tgt := 45) dX11_layOnTape_4 (by decide) (fun q => absurd q (by decide +kernel)) (fun _ => ?_)
  refine x_aload_n (M := M_X11_layOnTape) dX11_layOnTape_7 rfl ?_
  refine x_getf (M := M_X11_layOnTape) (ci := 14) (C := RX11) (T := TX11) (N := 19) (ty := tyX11) cl14 dX11_layOnTape_8 o3869 3 (by decide) t_566 (v := .int (Int32.ofInt 8)) rfl ?_
  refine x_ldc (M := M_X11_layOnTape) dX11_layOnTape_11 t_98 ?_
  refine x_icmp_ge (M := M_X11_layOnTape) (tgt := 45) dX11_layOnTape_13 (by decide) (fun q => absurd q (by decide +kernel)) (fun _ => ?_)
  refine x_aload_n (M := M_X11_layOnTape) dX11_layOnTape_16 rfl ?_
  refine x_getf (M := M_X11_layOnTape) (ci := 14) (C := RX11) (T := TX11) (N := 19) (ty := tyX11) cl14 dX11_layOnTape_17 o3869 2 (by decide) t_565 (v := .ref 166) rfl ?_
  refine x_aload_n (M := M_X11_layOnTape) dX11_layOnTape_20 rfl ?_
  refine x_getf (M := M_X11_layOnTape) (ci := 14) (C := RX11) (T := TX11) (N := 19) (ty := tyX11) cl14 dX11_layOnTape_21 o3869 3 (by decide) t_566 (v := .int (Int32.ofInt 8)) rfl ?_
  refine x_iload_n (M := M_X11_layOnTape) dX11_layOnTape_24 rfl ?_
  refine x_iload_n (M := M_X11_layOnTape) dX11_layOnTape_25 rfl ?_
  refine x_iushr (M := M_X11_layOnTape) dX11_layOnTape_26 ?_
  refine x_i2b (M := M_X11_layOnTape) dX11_layOnTape_27 ?_
  refine y_bast (M := M_X11_layOnTape) (k := 8) dX11_layOnTape_28 o3870 (vp_inD (by decide +kernel)) (by decide +kernel) (fun h3871 w3872 f3873 => ?_)
  refine x_aload_n (M := M_X11_layOnTape) dX11_layOnTape_29 rfl ?_
  refine x_dup (M := M_X11_layOnTape) dX11_layOnTape_30 rfl ?_
  have o3874 := (f3873 32 _ (by decide) o3869)
  refine x_getf (M := M_X11_layOnTape) (ci := 14) (C := RX11) (T := TX11) (N := 19) (ty := tyX11) cl14 dX11_layOnTape_31 o3874 3 (by decide) t_566 (v := .int (Int32.ofInt 8)) rfl ?_
  refine x_iconst (M := M_X11_layOnTape) dX11_layOnTape_34 ?_
  refine x_iadd (M := M_X11_layOnTape) dX11_layOnTape_35 ?_
  refine x_top (M := M_X11_layOnTape) (y := (Int32.ofInt 9)) (by decide +kernel) ?_
  refine y_put (M := M_X11_layOnTape) (ci := 14) (C := RX11) (T := TX11) (N := 19) (ty := tyX11) cl14 dX11_layOnTape_36 o3874 3 (by decide) t_566 (Or.inl rfl) (Nat.le_of_ble_eq_true rfl) rfl (fun h3875 (w3876 : ob h3875 32 = some (.inr (14, [.ref 33, .ref 162, .ref 166, .int (Int32.ofInt 9), .int (0 : Int32), .int (0 : Int32), .ref 167, .ref 170, .ref 173, .ref 177, .ref 193, .ref 208, .ref 222, .ref 238, .ref 252, .ref 274, .ref 275, .ref 276, .int (0 : Int32)]))) f3877 => ?_)
  refine x_iinc (M := M_X11_layOnTape) dX11_layOnTape_39 rfl (Nat.le_of_ble_eq_true rfl) rfl ?_
  refine x_lvs (M := M_X11_layOnTape) (lv' := [some (.ref 32), some (.int a2), some (.int (Int32.ofInt 16))]) (by rw [(by decide +kernel : (Int32.ofInt 24) + Int32.ofInt (-8) = (Int32.ofInt 16))] <;> rfl) ?_
  refine x_goto (M := M_X11_layOnTape) (tgt := 3) dX11_layOnTape_42 (by decide) ?_
  refine x_iload_n (M := M_X11_layOnTape) dX11_layOnTape_3 rfl ?_
  refine x_if_lt (M := M_X11_layOnTape) (tgt := 45) dX11_layOnTape_4 (by decide) (fun q => absurd q (by decide +kernel)) (fun _ => ?_)
  refine x_aload_n (M := M_X11_layOnTape) dX11_layOnTape_7 rfl ?_
  refine x_getf (M := M_X11_layOnTape) (ci := 14) (C := RX11) (T := TX11) (N := 19) (ty := tyX11) cl14 dX11_layOnTape_8 w3876 3 (by decide) t_566 (v := .int (Int32.ofInt 9)) rfl ?_
  refine x_ldc (M := M_X11_layOnTape) dX11_layOnTape_11 t_98 ?_
  refine x_icmp_ge (M := M_X11_layOnTape) (tgt := 45) dX11_layOnTape_13 (by decide) (fun q => absurd q (by decide +kernel)) (fun _ => ?_)
  refine x_aload_n (M := M_X11_layOnTape) dX11_layOnTape_16 rfl ?_
  refine x_getf (M := M_X11_layOnTape) (ci := 14) (C := RX11) (T := TX11) (N := 19) (ty := tyX11) cl14 dX11_layOnTape_17 w3876 2 (by decide) t_565 (v := .ref 166) rfl ?_
  refine x_aload_n (M := M_X11_layOnTape) dX11_layOnTape_20 rfl ?_
  refine x_getf (M := M_X11_layOnTape) (ci := 14) (C := RX11) (T := TX11) (N := 19) (ty := tyX11) cl14 dX11_layOnTape_21 w3876 3 (by decide) t_566 (v := .int (Int32.ofInt 9)) rfl ?_
  refine x_iload_n (M := M_X11_layOnTape) dX11_layOnTape_24 rfl ?_
  refine x_iload_n (M := M_X11_layOnTape) dX11_layOnTape_25 rfl ?_
  refine x_iushr (M := M_X11_layOnTape) dX11_layOnTape_26 ?_
  refine x_i2b (M := M_X11_layOnTape) dX11_layOnTape_27 ?_
  have o3878 := (f3877 166 _ (by decide) w3872)
  refine y_bast (M := M_X11_layOnTape) (k := 9) dX11_layOnTape_28 o3878 (vp_inD (by decide +kernel)) (by decide +kernel) (fun h3879 w3880 f3881 => ?_)
  refine x_aload_n (M := M_X11_layOnTape) dX11_layOnTape_29 rfl ?_
  refine x_dup (M := M_X11_layOnTape) dX11_layOnTape_30 rfl ?_
  have o3882 := (f3881 32 _ (by decide) w3876)
  refine x_getf (M := M_X11_layOnTape) (ci := 14) (C := RX11) (T := TX11) (N := 19) (ty := tyX11) cl14 dX11_layOnTape_31 o3882 3 (by decide) t_566 (v := .int (Int32.ofInt 9)) rfl ?_
  refine x_iconst (M := M_X11_layOnTape) dX11_layOnTape_34 ?_
  refine x_iadd (M := M_X11_layOnTape) dX11_layOnTape_35 ?_
  refine x_top (M := M_X11_layOnTape) (y := (Int32.ofInt 10)) (by decide +kernel) ?_
  refine y_put (M := M_X11_layOnTape) (ci := 14) (C := RX11) (T := TX11) (N := 19) (ty := tyX11) cl14 dX11_layOnTape_36 o3882 3 (by decide) t_566 (Or.inl rfl) (Nat.le_of_ble_eq_true rfl) rfl (fun h3883 (w3884 : ob h3883 32 = some (.inr (14, [.ref 33, .ref 162, .ref 166, .int (Int32.ofInt 10), .int (0 : Int32), .int (0 : Int32), .ref 167, .ref 170, .ref 173, .ref 177, .ref 193, .ref 208, .ref 222, .ref 238, .ref 252, .ref 274, .ref 275, .ref 276, .int (0 : Int32)]))) f3885 => ?_)
  refine x_iinc (M := M_X11_layOnTape) dX11_layOnTape_39 rfl (Nat.le_of_ble_eq_true rfl) rfl ?_
  refine x_lvs (M := M_X11_layOnTape) (lv' := [some (.ref 32), some (.int a2), some (.int (Int32.ofInt 8))]) (by rw [(by decide +kernel : (Int32.ofInt 16) + Int32.ofInt (-8) = (Int32.ofInt 8))] <;> rfl) ?_
  refine x_goto (M := M_X11_layOnTape) (tgt := 3) dX11_layOnTape_42 (by decide) ?_
  refine x_iload_n (M := M_X11_layOnTape) dX11_layOnTape_3 rfl ?_
  refine x_if_lt (M := M_X11_layOnTape) (tgt := 45) dX11_layOnTape_4 (by decide) (fun q => absurd q (by decide +kernel)) (fun _ => ?_)
  refine x_aload_n (M := M_X11_layOnTape) dX11_layOnTape_7 rfl ?_
  refine x_getf (M := M_X11_layOnTape) (ci := 14) (C := RX11) (T := TX11) (N := 19) (ty := tyX11) cl14 dX11_layOnTape_8 w3884 3 (by decide) t_566 (v := .int (Int32.ofInt 10)) rfl ?_
  refine x_ldc (M := M_X11_layOnTape) dX11_layOnTape_11 t_98 ?_
  refine x_icmp_ge (M := M_X11_layOnTape) (tgt := 45) dX11_layOnTape_13 (by decide) (fun q => absurd q (by decide +kernel)) (fun _ => ?_)
  refine x_aload_n (M := M_X11_layOnTape) dX11_layOnTape_16 rfl ?_
  refine x_getf (M := M_X11_layOnTape) (ci := 14) (C := RX11) (T := TX11) (N := 19) (ty := tyX11) cl14 dX11_layOnTape_17 w3884 2 (by decide) t_565 (v := .ref 166) rfl ?_
  refine x_aload_n (M := M_X11_layOnTape) dX11_layOnTape_20 rfl ?_
  refine x_getf (M := M_X11_layOnTape) (ci := 14) (C := RX11) (T := TX11) (N := 19) (ty := tyX11) cl14 dX11_layOnTape_21 w3884 3 (by decide) t_566 (v := .int (Int32.ofInt 10)) rfl ?_
  refine x_iload_n (M := M_X11_layOnTape) dX11_layOnTape_24 rfl ?_
  refine x_iload_n (M := M_X11_layOnTape) dX11_layOnTape_25 rfl ?_
  refine x_iushr (M := M_X11_layOnTape) dX11_layOnTape_26 ?_
  refine x_i2b (M := M_X11_layOnTape) dX11_layOnTape_27 ?_
  have o3886 := (f3885 166 _ (by decide) w3880)
  refine y_bast (M := M_X11_layOnTape) (k := 10) dX11_layOnTape_28 o3886 (vp_inD (by decide +kernel)) (by decide +kernel) (fun h3887 w3888 f3889 => ?_)
  refine x_aload_n (M := M_X11_layOnTape) dX11_layOnTape_29 rfl ?_
  refine x_dup (M := M_X11_layOnTape) dX11_layOnTape_30 rfl ?_
  have o3890 := (f3889 32 _ (by decide) w3884)
  refine x_getf (M := M_X11_layOnTape) (ci := 14) (C := RX11) (T := TX11) (N := 19) (ty := tyX11) cl14 dX11_layOnTape_31 o3890 3 (by decide) t_566 (v := .int (Int32.ofInt 10)) rfl ?_
  refine x_iconst (M := M_X11_layOnTape) dX11_layOnTape_34 ?_
  refine x_iadd (M := M_X11_layOnTape) dX11_layOnTape_35 ?_
  refine x_top (M := M_X11_layOnTape) (y := (Int32.ofInt 11)) (by decide +kernel) ?_
  refine y_put (M := M_X11_layOnTape) (ci := 14) (C := RX11) (T := TX11) (N := 19) (ty := tyX11) cl14 dX11_layOnTape_36 o3890 3 (by decide) t_566 (Or.inl rfl) (Nat.le_of_ble_eq_true rfl) rfl (fun h3891 (w3892 : ob h3891 32 = some (.inr (14, [.ref 33, .ref 162, .ref 166, .int (Int32.ofInt 11), .int (0 : Int32), .int (0 : Int32), .ref 167, .ref 170, .ref 173, .ref 177, .ref 193, .ref 208, .ref 222, .ref 238, .ref 252, .ref 274, .ref 275, .ref 276, .int (0 : Int32)]))) f3893 => ?_)
  refine x_iinc (M := M_X11_layOnTape) dX11_layOnTape_39 rfl (Nat.le_of_ble_eq_true rfl) rfl ?_
  refine x_lvs (M := M_X11_layOnTape) (lv' := [some (.ref 32), some (.int a2), some (.int (Int32.ofInt 0))]) (by rw [(by decide +kernel : (Int32.ofInt 8) + Int32.ofInt (-8) = (Int32.ofInt 0))] <;> rfl) ?_
  refine x_goto (M := M_X11_layOnTape) (tgt := 3) dX11_layOnTape_42 (by decide) ?_
  refine x_iload_n (M := M_X11_layOnTape) dX11_layOnTape_3 rfl ?_
  refine x_if_lt (M := M_X11_layOnTape) (tgt := 45) dX11_layOnTape_4 (by decide) (fun q => absurd q (by decide +kernel)) (fun _ => ?_)
  refine x_aload_n (M := M_X11_layOnTape) dX11_layOnTape_7 rfl ?_
  refine x_getf (M := M_X11_layOnTape) (ci := 14) (C := RX11) (T := TX11) (N := 19) (ty := tyX11) cl14 dX11_layOnTape_8 w3892 3 (by decide) t_566 (v := .int (Int32.ofInt 11)) rfl ?_
  refine x_ldc (M := M_X11_layOnTape) dX11_layOnTape_11 t_98 ?_
  refine x_icmp_ge (M := M_X11_layOnTape) (tgt := 45) dX11_layOnTape_13 (by decide) (fun q => absurd q (by decide +kernel)) (fun _ => ?_)
  refine x_aload_n (M := M_X11_layOnTape) dX11_layOnTape_16 rfl ?_
  refine x_getf (M := M_X11_layOnTape) (ci := 14) (C := RX11) (T := TX11) (N := 19) (ty := tyX11) cl14 dX11_layOnTape_17 w3892 2 (by decide) t_565 (v := .ref 166) rfl ?_
  refine x_aload_n (M := M_X11_layOnTape) dX11_layOnTape_20 rfl ?_
  refine x_getf (M := M_X11_layOnTape) (ci := 14) (C := RX11) (T := TX11) (N := 19) (ty := tyX11) cl14 dX11_layOnTape_21 w3892 3 (by decide) t_566 (v := .int (Int32.ofInt 11)) rfl ?_
  refine x_iload_n (M := M_X11_layOnTape) dX11_layOnTape_24 rfl ?_
  refine x_iload_n (M := M_X11_layOnTape) dX11_layOnTape_25 rfl ?_
  refine x_iushr (M := M_X11_layOnTape) dX11_layOnTape_26 ?_
  refine x_i2b (M := M_X11_layOnTape) dX11_layOnTape_27 ?_
  have o3894 := (f3893 166 _ (by decide) w3888)
  refine y_bast (M := M_X11_layOnTape) (k := 11) dX11_layOnTape_28 o3894 (vp_inD (by decide +kernel)) (by decide +kernel) (fun h3895 w3896 f3897 => ?_)
  refine x_aload_n (M := M_X11_layOnTape) dX11_layOnTape_29 rfl ?_
  refine x_dup (M := M_X11_layOnTape) dX11_layOnTape_30 rfl ?_
  have o3898 := (f3897 32 _ (by decide) w3892)
  refine x_getf (M := M_X11_layOnTape) (ci := 14) (C := RX11) (T := TX11) (N := 19) (ty := tyX11) cl14 dX11_layOnTape_31 o3898 3 (by decide) t_566 (v := .int (Int32.ofInt 11)) rfl ?_
  refine x_iconst (M := M_X11_layOnTape) dX11_layOnTape_34 ?_
  refine x_iadd (M := M_X11_layOnTape) dX11_layOnTape_35 ?_
  refine x_top (M := M_X11_layOnTape) (y := (Int32.ofInt 12)) (by decide +kernel) ?_
  refine y_put (M := M_X11_layOnTape) (ci := 14) (C := RX11) (T := TX11) (N := 19) (ty := tyX11) cl14 dX11_layOnTape_36 o3898 3 (by decide) t_566 (Or.inl rfl) (Nat.le_of_ble_eq_true rfl) rfl (fun h3899 (w3900 : ob h3899 32 = some (.inr (14, [.ref 33, .ref 162, .ref 166, .int (Int32.ofInt 12), .int (0 : Int32), .int (0 : Int32), .ref 167, .ref 170, .ref 173, .ref 177, .ref 193, .ref 208, .ref 222, .ref 238, .ref 252, .ref 274, .ref 275, .ref 276, .int (0 : Int32)]))) f3901 => ?_)
  refine x_iinc (M := M_X11_layOnTape) dX11_layOnTape_39 rfl (Nat.le_of_ble_eq_true rfl) rfl ?_
  refine x_lvs (M := M_X11_layOnTape) (lv' := [some (.ref 32), some (.int a2), some (.int (Int32.ofInt (-8)))]) (by rw [(by decide +kernel : (Int32.ofInt 0) + Int32.ofInt (-8) = (Int32.ofInt (-8)))] <;> rfl) ?_
  refine x_goto (M := M_X11_layOnTape) (tgt := 3) dX11_layOnTape_42 (by decide) ?_
  refine x_iload_n (M := M_X11_layOnTape) dX11_layOnTape_3 rfl ?_
  refine x_if_lt (M := M_X11_layOnTape) (tgt := 45) dX11_layOnTape_4 (by decide) (fun _ => ?_) (fun q => absurd q (by decide +kernel))
  have o3902 := (f3901 166 _ (by decide) w3896)
  exact x_vret (M := M_X11_layOnTape) dX11_layOnTape_45 rfl ⟨rfl, (fr_tr f3901 (by decide) (fr_tr f3897 (by decide) (fr_tr f3893 (by decide) (fr_tr f3889 (by decide) (fr_tr f3885 (by decide) (fr_tr f3881 (by decide) (fr_tr f3877 (by decide) (fr_tr f3873 (by decide) fr_rf)))))))), ⟨o3902, w3900, trivial⟩⟩ (Nat.le_of_ble_eq_true rfl) (Nat.le_of_ble_eq_true rfl)
set_option maxRecDepth 10000 in
theorem q3943 {l : Launch} {E : EE} (hl : l.stackTraces = false) {h : HP} {a0 : Int32} {a1 : Int32} {a2 : Int32} {a3 : Int32} (o3909 : ob h 32 = some (.inr (14, [.ref 33, .ref 162, .ref 166, .int (Int32.ofInt 12), .int (0 : Int32), .int (0 : Int32), .ref 167, .ref 170, .ref 173, .ref 177, .ref 193, .ref 208, .ref 222, .ref 238, .ref 252, .ref 274, .ref 275, .ref 276, .int (0 : Int32)]))) (o3910 : ob h 166 = some (.inl (2, 65536, .inl (upd (upd (upd (upd (upd (upd (upd (upd (upd (upd (upd (upd (fun _ => 0) 0 (vp_nar .byte (((a0.toUInt32 >>> ((Int32.ofInt 24).toUInt32 &&& Int32.toUInt32 31)).toInt32).toInt8.toInt32))) 1 (vp_nar .byte (((a0.toUInt32 >>> ((Int32.ofInt 16).toUInt32 &&& Int32.toUInt32 31)).toInt32).toInt8.toInt32))) 2 (vp_nar .byte (((a0.toUInt32 >>> ((Int32.ofInt 8).toUInt32 &&& Int32.toUInt32 31)).toInt32).toInt8.toInt32))) 3 (vp_nar .byte (((a0.toUInt32 >>> ((Int32.ofInt 0).toUInt32 &&& Int32.toUInt32 31)).toInt32).toInt8.toInt32))) 4 (vp_nar .byte (((a1.toUInt32 >>> ((Int32.ofInt 24).toUInt32 &&& Int32.toUInt32 31)).toInt32).toInt8.toInt32))) 5 (vp_nar .byte (((a1.toUInt32 >>> ((Int32.ofInt 16).toUInt32 &&& Int32.toUInt32 31)).toInt32).toInt8.toInt32))) 6 (vp_nar .byte (((a1.toUInt32 >>> ((Int32.ofInt 8).toUInt32 &&& Int32.toUInt32 31)).toInt32).toInt8.toInt32))) 7 (vp_nar .byte (((a1.toUInt32 >>> ((Int32.ofInt 0).toUInt32 &&& Int32.toUInt32 31)).toInt32).toInt8.toInt32))) 8 (vp_nar .byte (((a2.toUInt32 >>> ((Int32.ofInt 24).toUInt32 &&& Int32.toUInt32 31)).toInt32).toInt8.toInt32))) 9 (vp_nar .byte (((a2.toUInt32 >>> ((Int32.ofInt 16).toUInt32 &&& Int32.toUInt32 31)).toInt32).toInt8.toInt32))) 10 (vp_nar .byte (((a2.toUInt32 >>> ((Int32.ofInt 8).toUInt32 &&& Int32.toUInt32 31)).toInt32).toInt8.toInt32))) 11 (vp_nar .byte (((a2.toUInt32 >>> ((Int32.ofInt 0).toUInt32 &&& Int32.toUInt32 31)).toInt32).toInt8.toInt32)))))) : en_C l E M_X11_layOnTape 0 0 0 [.ref 32, .int a3] h (pF none [166, 32] h (fun h' => ob h' 166 = some (.inl (2, 65536, .inl (upd (upd (upd (upd (upd (upd (upd (upd (upd (upd (upd (upd (upd (upd (upd (upd (fun _ => 0) 0 (vp_nar .byte (((a0.toUInt32 >>> ((Int32.ofInt 24).toUInt32 &&& Int32.toUInt32 31)).toInt32).toInt8.toInt32))) 1 (vp_nar .byte (((a0.toUInt32 >>> ((Int32.ofInt 16).toUInt32 &&& Int32.toUInt32 31)).toInt32).toInt8.toInt32))) 2 (vp_nar .byte (((a0.toUInt32 >>> ((Int32.ofInt 8).toUInt32 &&& Int32.toUInt32 31)).toInt32).toInt8.toInt32))) 3 (vp_nar .byte (((a0.toUInt32 >>> ((Int32.ofInt 0).toUInt32 &&& Int32.toUInt32 31)).toInt32).toInt8.toInt32))) 4 (vp_nar .byte (((a1.toUInt32 >>> ((Int32.ofInt 24).toUInt32 &&& Int32.toUInt32 31)).toInt32).toInt8.toInt32))) 5 (vp_nar .byte (((a1.toUInt32 >>> ((Int32.ofInt 16).toUInt32 &&& Int32.toUInt32 31)).toInt32).toInt8.toInt32))) 6 (vp_nar .byte (((a1.toUInt32 >>> ((Int32.ofInt 8).toUInt32 &&& Int32.toUInt32 31)).toInt32).toInt8.toInt32))) 7 (vp_nar .byte (((a1.toUInt32 >>> ((Int32.ofInt 0).toUInt32 &&& Int32.toUInt32 31)).toInt32).toInt8.toInt32))) 8 (vp_nar .byte (((a2.toUInt32 >>> ((Int32.ofInt 24).toUInt32 &&& Int32.toUInt32 31)).toInt32).toInt8.toInt32))) 9 (vp_nar .byte (((a2.toUInt32 >>> ((Int32.ofInt 16).toUInt32 &&& Int32.toUInt32 31)).toInt32).toInt8.toInt32))) 10 (vp_nar .byte (((a2.toUInt32 >>> ((Int32.ofInt 8).toUInt32 &&& Int32.toUInt32 31)).toInt32).toInt8.toInt32))) 11 (vp_nar .byte (((a2.toUInt32 >>> ((Int32.ofInt 0).toUInt32 &&& Int32.toUInt32 31)).toInt32).toInt8.toInt32))) 12 (vp_nar .byte (((a3.toUInt32 >>> ((Int32.ofInt 24).toUInt32 &&& Int32.toUInt32 31)).toInt32).toInt8.toInt32))) 13 (vp_nar .byte (((a3.toUInt32 >>> ((Int32.ofInt 16).toUInt32 &&& Int32.toUInt32 31)).toInt32).toInt8.toInt32))) 14 (vp_nar .byte (((a3.toUInt32 >>> ((Int32.ofInt 8).toUInt32 &&& Int32.toUInt32 31)).toInt32).toInt8.toInt32))) 15 (vp_nar .byte (((a3.toUInt32 >>> ((Int32.ofInt 0).toUInt32 &&& Int32.toUInt32 31)).toInt32).toInt8.toInt32))))) ∧ ob h' 32 = some (.inr (14, [.ref 33, .ref 162, .ref 166, .int (Int32.ofInt 16), .int (0 : Int32), .int (0 : Int32), .ref 167, .ref 170, .ref 173, .ref 177, .ref 193, .ref 208, .ref 222, .ref 238, .ref 252, .ref 274, .ref 275, .ref 276, .int (0 : Int32)])) ∧ True)) := by
  refine en_mk m_X11_layOnTape rfl hl (Nat.le_of_ble_eq_true rfl) ?_
  refine x_bipush (M := M_X11_layOnTape) dX11_layOnTape_0 ?_
  refine x_top (M := M_X11_layOnTape) (y := (Int32.ofInt 24)) (by decide +kernel) ?_
  refine x_istore_n (M := M_X11_layOnTape) dX11_layOnTape_2 (Nat.le_of_ble_eq_true rfl) rfl ?_
  refine x_iload_n (M := M_X11_layOnTape) dX11_layOnTape_3 rfl ?_
  refine x_if_lt (M := M_X11_layOnTape) (tgt := 45) dX11_layOnTape_4 (by decide) (fun q => absurd q (by decide +kernel)) (fun _ => ?_)
  refine x_aload_n (M := M_X11_layOnTape) dX11_layOnTape_7 rfl ?_
  refine x_getf (M := M_X11_layOnTape) (ci := 14) (C := RX11) (T := TX11) (N := 19) (ty := tyX11) cl14 dX11_layOnTape_8 o3909 3 (by decide) t_566 (v := .int (Int32.ofInt 12)) rfl ?_
  refine x_ldc (M := M_X11_layOnTape) dX11_layOnTape_11 t_98 ?_
  refine x_icmp_ge (M := M_X11_layOnTape) (tgt := 45) dX11_layOnTape_13 (by decide) (fun q => absurd q (by decide +kernel)) (fun _ => ?_)
  refine x_aload_n (M := M_X11_layOnTape) dX11_layOnTape_16 rfl ?_
  refine x_getf (M := M_X11_layOnTape) (ci := 14) (C := RX11) (T := TX11) (N := 19) (ty := tyX11) cl14 dX11_layOnTape_17 o3909 2 (by decide) t_565 (v := .ref 166) rfl ?_
  refine x_aload_n (M := M_X11_layOnTape) dX11_layOnTape_20 rfl ?_
  refine x_getf (M := M_X11_layOnTape) (ci := 14) (C := RX11) (T := TX11) (N := 19) (ty := tyX11) cl14 dX11_layOnTape_21 o3909 3 (by decide) t_566 (v := .int (Int32.ofInt 12)) rfl ?_
  refine x_iload_n (M := M_X11_layOnTape) dX11_layOnTape_24 rfl ?_
  refine x_iload_n (M := M_X11_layOnTape) dX11_layOnTape_25 rfl ?_
  refine x_iushr (M := M_X11_layOnTape) dX11_layOnTape_26 ?_
  refine x_i2b (M := M_X11_layOnTape) dX11_layOnTape_27 ?_
  refine y_bast (M := M_X11_layOnTape) (k := 12) dX11_layOnTape_28 o3910 (vp_inD (by decide +kernel)) (by decide +kernel) (fun h3911 w3912 f3913 => ?_)
  refine x_aload_n (M := M_X11_layOnTape) dX11_layOnTape_29 rfl ?_
  refine x_dup (M := M_X11_layOnTape) dX11_layOnTape_30 rfl ?_
  have o3914 := (f3913 32 _ (by decide) o3909)
  refine x_getf (M := M_X11_layOnTape) (ci := 14) (C := RX11) (T := TX11) (N := 19) (ty := tyX11) cl14 dX11_layOnTape_31 o3914 3 (by decide) t_566 (v := .int (Int32.ofInt 12)) rfl ?_
  refine x_iconst (M := M_X11_layOnTape) dX11_layOnTape_34 ?_
  refine x_iadd (M := M_X11_layOnTape) dX11_layOnTape_35 ?_
  refine x_top (M := M_X11_layOnTape) (y := (Int32.ofInt 13)) (by decide +kernel) ?_
  refine y_put (M := M_X11_layOnTape) (ci := 14) (C := RX11) (T := TX11) (N := 19) (ty := tyX11) cl14 dX11_layOnTape_36 o3914 3 (by decide) t_566 (Or.inl rfl) (Nat.le_of_ble_eq_true rfl) rfl (fun h3915 (w3916 : ob h3915 32 = some (.inr (14, [.ref 33, .ref 162, .ref 166, .int (Int32.ofInt 13), .int (0 : Int32), .int (0 : Int32), .ref 167, .ref 170, .ref 173, .ref 177, .ref 193, .ref 208, .ref 222, .ref 238, .ref 252, .ref 274, .ref 275, .ref 276, .int (0 : Int32)]))) f3917 => ?_)
  refine x_iinc (M := M_X11_layOnTape) dX11_layOnTape_39 rfl (Nat.le_of_ble_eq_true rfl) rfl ?_
  refine x_lvs (M := M_X11_layOnTape) (lv' := [some (.ref 32), some (.int a3), some (.int (Int32.ofInt 16))]) (by rw [(by decide +kernel : (Int32.ofInt 24) + Int32.ofInt (-8) = (Int32.ofInt 16))] <;> rfl) ?_
  refine x_goto (M := M_X11_layOnTape) (tgt := 3) dX11_layOnTape_42 (by decide) ?_
  refine x_iload_n (M := M_X11_layOnTape) dX11_layOnTape_3 rfl ?_
  refine x_if_lt (M := M_X11_layOnTape) (tgt := 45) dX11_layOnTape_4 (by decide) (fun q => absurd q (by decide +kernel)) (fun _ => ?_)
  refine x_aload_n (M := M_X11_layOnTape) dX11_layOnTape_7 rfl ?_
  refine x_getf (M := M_X11_layOnTape) (ci := 14) (C := RX11) (T := TX11) (N := 19) (ty := tyX11) cl14 dX11_layOnTape_8 w3916 3 (by decide) t_566 (v := .int (Int32.ofInt 13)) rfl ?_
  refine x_ldc (M := M_X11_layOnTape) dX11_layOnTape_11 t_98 ?_
  refine x_icmp_ge (M := M_X11_layOnTape) (tgt := 45) dX11_layOnTape_13 (by decide) (fun q => absurd q (by decide +kernel)) (fun _ => ?_)
  refine x_aload_n (M := M_X11_layOnTape) dX11_layOnTape_16 rfl ?_
  refine x_getf (M := M_X11_layOnTape) (ci := 14) (C := RX11) (T := TX11) (N := 19) (ty := tyX11) cl14 dX11_layOnTape_17 w3916 2 (by decide) t_565 (v := .ref 166) rfl ?_
  refine x_aload_n (M := M_X11_layOnTape) dX11_layOnTape_20 rfl ?_
  refine x_getf (M := M_X11_layOnTape) (ci := 14) (C := RX11) (T := TX11) (N := 19) (ty := tyX11) cl14 dX11_layOnTape_21 w3916 3 (by decide) t_566 (v := .int (Int32.ofInt 13)) rfl ?_
  refine x_iload_n (M := M_X11_layOnTape) dX11_layOnTape_24 rfl ?_
  refine x_iload_n (M := M_X11_layOnTape) dX11_layOnTape_25 rfl ?_
  refine x_iushr (M := M_X11_layOnTape) dX11_layOnTape_26 ?_
  refine x_i2b (M := M_X11_layOnTape) dX11_layOnTape_27 ?_
  have o3918 := (f3917 166 _ (by decide) w3912)
  refine y_bast (M := M_X11_layOnTape) (k := 13) dX11_layOnTape_28 o3918 (vp_inD (by decide +kernel)) (by decide +kernel) (fun h3919 w3920 f3921 => ?_)
  refine x_aload_n (M := M_X11_layOnTape) dX11_layOnTape_29 rfl ?_
  refine x_dup (M := M_X11_layOnTape) dX11_layOnTape_30 rfl ?_
  have o3922 := (f3921 32 _ (by decide) w3916)
  refine x_getf (M := M_X11_layOnTape) (ci := 14) (C := RX11) (T := TX11) (N := 19) (ty := tyX11) cl14 dX11_layOnTape_31 o3922 3 (by decide) t_566 (v := .int (Int32.ofInt 13)) rfl ?_
  refine x_iconst (M := M_X11_layOnTape) dX11_layOnTape_34 ?_
  refine x_iadd (M := M_X11_layOnTape) dX11_layOnTape_35 ?_
  refine x_top (M := M_X11_layOnTape) (y := (Int32.ofInt 14)) (by decide +kernel) ?_
  refine y_put (M := M_X11_layOnTape) (ci := 14) (C := RX11) (T := TX11) (N := 19) (ty := tyX11) cl14 dX11_layOnTape_36 o3922 3 (by decide) t_566 (Or.inl rfl) (Nat.le_of_ble_eq_true rfl) rfl (fun h3923 (w3924 : ob h3923 32 = some (.inr (14, [.ref 33, .ref 162, .ref 166, .int (Int32.ofInt 14), .int (0 : Int32), .int (0 : Int32), .ref 167, .ref 170, .ref 173, .ref 177, .ref 193, .ref 208, .ref 222, .ref 238, .ref 252, .ref 274, .ref 275, .ref 276, .int (0 : Int32)]))) f3925 => ?_)
  refine x_iinc (M := M_X11_layOnTape) dX11_layOnTape_39 rfl (Nat.le_of_ble_eq_true rfl) rfl ?_
  refine x_lvs (M := M_X11_layOnTape) (lv' := [some (.ref 32), some (.int a3), some (.int (Int32.ofInt 8))]) (by rw [(by decide +kernel : (Int32.ofInt 16) + Int32.ofInt (-8) = (Int32.ofInt 8))] <;> rfl) ?_
  refine x_goto (M := M_X11_layOnTape) (tgt := 3) dX11_layOnTape_42 (by decide) ?_
  refine x_iload_n (M := M_X11_layOnTape) dX11_layOnTape_3 rfl ?_
  refine x_if_lt (M := M_X11_layOnTape) (tgt := 45) dX11_layOnTape_4 (by decide) (fun q => absurd q (by decide +kernel)) (fun _ => ?_)
  refine x_aload_n (M := M_X11_layOnTape) dX11_layOnTape_7 rfl ?_
  refine x_getf (M := M_X11_layOnTape) (ci := 14) (C := RX11) (T := TX11) (N := 19) (ty := tyX11) cl14 dX11_layOnTape_8 w3924 3 (by decide) t_566 (v := .int (Int32.ofInt 14)) rfl ?_
  refine x_ldc (M := M_X11_layOnTape) dX11_layOnTape_11 t_98 ?_
  refine x_icmp_ge (M := M_X11_layOnTape) (tgt := 45) dX11_layOnTape_13 (by decide) (fun q => absurd q (by decide +kernel)) (fun _ => ?_)
  refine x_aload_n (M := M_X11_layOnTape) dX11_layOnTape_16 rfl ?_
  refine x_getf (M := M_X11_layOnTape) (ci := 14) (C := RX11) (T := TX11) (N := 19) (ty := tyX11) cl14 dX11_layOnTape_17 w3924 2 (by decide) t_565 (v := .ref 166) rfl ?_
  refine x_aload_n (M := M_X11_layOnTape) dX11_layOnTape_20 rfl ?_
  refine x_getf (M := M_X11_layOnTape) (ci := 14) (C := RX11) (T := TX11) (N := 19) (ty := tyX11) cl14 dX11_layOnTape_21 w3924 3 (by decide) t_566 (v := .int (Int32.ofInt 14)) rfl ?_
  refine x_iload_n (M := M_X11_layOnTape) dX11_layOnTape_24 rfl ?_
  refine x_iload_n (M := M_X11_layOnTape) dX11_layOnTape_25 rfl ?_
  refine x_iushr (M := M_X11_layOnTape) dX11_layOnTape_26 ?_
  refine x_i2b (M := M_X11_layOnTape) dX11_layOnTape_27 ?_
  have o3926 := (f3925 166 _ (by decide) w3920)
  refine y_bast (M := M_X11_layOnTape) (k := 14) dX11_layOnTape_28 o3926 (vp_inD (by decide +kernel)) (by decide +kernel) (fun h3927 w3928 f3929 => ?_)
  refine x_aload_n (M := M_X11_layOnTape) dX11_layOnTape_29 rfl ?_
  refine x_dup (M := M_X11_layOnTape) dX11_layOnTape_30 rfl ?_
  have o3930 := (f3929 32 _ (by decide) w3924)
  refine x_getf (M := M_X11_layOnTape) (ci := 14) (C := RX11) (T := TX11) (N := 19) (ty := tyX11) cl14 dX11_layOnTape_31 o3930 3 (by decide) t_566 (v := .int (Int32.ofInt 14)) rfl ?_
  refine x_iconst (M := M_X11_layOnTape) dX11_layOnTape_34 ?_
  refine x_iadd (M := M_X11_layOnTape) dX11_layOnTape_35 ?_
  refine x_top (M := M_X11_layOnTape) (y := (Int32.ofInt 15)) (by decide +kernel) ?_
  refine y_put (M := M_X11_layOnTape) (ci := 14) (C := RX11) (T := TX11) (N := 19) (ty := tyX11) cl14 dX11_layOnTape_36 o3930 3 (by decide) t_566 (Or.inl rfl) (Nat.le_of_ble_eq_true rfl) rfl (fun h3931 (w3932 : ob h3931 32 = some (.inr (14, [.ref 33, .ref 162, .ref 166, .int (Int32.ofInt 15), .int (0 : Int32), .int (0 : Int32), .ref 167, .ref 170, .ref 173, .ref 177, .ref 193, .ref 208, .ref 222, .ref 238, .ref 252, .ref 274, .ref 275, .ref 276, .int (0 : Int32)]))) f3933 => ?_)
  refine x_iinc (M := M_X11_layOnTape) dX11_layOnTape_39 rfl (Nat.le_of_ble_eq_true rfl) rfl ?_
  refine x_lvs (M := M_X11_layOnTape) (lv' := [some (.ref 32), some (.int a3), some (.int (Int32.ofInt 0))]) (by rw [(by decide +kernel : (Int32.ofInt 8) + Int32.ofInt (-8) = (Int32.ofInt 0))] <;> rfl) ?_
  refine x_goto (M := M_X11_layOnTape) (tgt := 3) dX11_layOnTape_42 (by decide) ?_
  refine x_iload_n (M := M_X11_layOnTape) dX11_layOnTape_3 rfl ?_
  refine x_if_lt (M := M_X11_layOnTape) (tgt := 45) dX11_layOnTape_4 (by decide) (fun q => absurd q (by decide +kernel)) (fun _ => ?_)
  refine x_aload_n (M := M_X11_layOnTape) dX11_layOnTape_7 rfl ?_
  refine x_getf (M := M_X11_layOnTape) (ci := 14) (C := RX11) (T := TX11) (N := 19) (ty := tyX11) cl14 dX11_layOnTape_8 w3932 3 (by decide) t_566 (v := .int (Int32.ofInt 15)) rfl ?_
  refine x_ldc (M := M_X11_layOnTape) dX11_layOnTape_11 t_98 ?_
  refine x_icmp_ge (M := M_X11_layOnTape) (tgt := 45) dX11_layOnTape_13 (by decide) (fun q => absurd q (by decide +kernel)) (fun _ => ?_)
  refine x_aload_n (M := M_X11_layOnTape) dX11_layOnTape_16 rfl ?_
  refine x_getf (M := M_X11_layOnTape) (ci := 14) (C := RX11) (T := TX11) (N := 19) (ty := tyX11) cl14 dX11_layOnTape_17 w3932 2 (by decide) t_565 (v := .ref 166) rfl ?_
  refine x_aload_n (M := M_X11_layOnTape) dX11_layOnTape_20 rfl ?_
  refine x_getf (M := M_X11_layOnTape) (ci := 14) (C := RX11) (T := TX11) (N := 19) (ty := tyX11) cl14 dX11_layOnTape_21 w3932 3 (by decide) t_566 (v := .int (Int32.ofInt 15)) rfl ?_
  refine x_iload_n (M := M_X11_layOnTape) dX11_layOnTape_24 rfl ?_
  refine x_iload_n (M := M_X11_layOnTape) dX11_layOnTape_25 rfl ?_
  refine x_iushr (M := M_X11_layOnTape) dX11_layOnTape_26 ?_
  refine x_i2b (M := M_X11_layOnTape) dX11_layOnTape_27 ?_
  have o3934 := (f3933 166 _ (by decide) w3928)
  refine y_bast (M := M_X11_layOnTape) (k := 15) dX11_layOnTape_28 o3934 (vp_inD (by decide +kernel)) (by decide +kernel) (fun h3935 w3936 f3937 => ?_)
  refine x_aload_n (M := M_X11_layOnTape) dX11_layOnTape_29 rfl ?_
  refine x_dup (M := M_X11_layOnTape) dX11_layOnTape_30 rfl ?_
  have o3938 := (f3937 32 _ (by decide) w3932)
  refine x_getf (M := M_X11_layOnTape) (ci := 14) (C := RX11) (T := TX11) (N := 19) (ty := tyX11) cl14 dX11_layOnTape_31 o3938 3 (by decide) t_566 (v := .int (Int32.ofInt 15)) rfl ?_
  refine x_iconst (M := M_X11_layOnTape) dX11_layOnTape_34 ?_
  refine x_iadd (M := M_X11_layOnTape) dX11_layOnTape_35 ?_
  refine x_top (M := M_X11_layOnTape) (y := (Int32.ofInt 16)) (by decide +kernel) ?_
  refine y_put (M := M_X11_layOnTape) (ci := 14) (C := RX11) (T := TX11) (N := 19) (ty := tyX11) cl14 dX11_layOnTape_36 o3938 3 (by decide) t_566 (Or.inl rfl) (Nat.le_of_ble_eq_true rfl) rfl (fun h3939 (w3940 : ob h3939 32 = some (.inr (14, [.ref 33, .ref 162, .ref 166, .int (Int32.ofInt 16), .int (0 : Int32), .int (0 : Int32), .ref 167, .ref 170, .ref 173, .ref 177, .ref 193, .ref 208, .ref 222, .ref 238, .ref 252, .ref 274, .ref 275, .ref 276, .int (0 : Int32)]))) f3941 => ?_)
  refine x_iinc (M := M_X11_layOnTape) dX11_layOnTape_39 rfl (Nat.le_of_ble_eq_true rfl) rfl ?_
  refine x_lvs (M := M_X11_layOnTape) (lv' := [some (.ref 32), some (.int a3), some (.int (Int32.ofInt (-8)))]) (by rw [(by decide +kernel : (Int32.ofInt 0) + Int32.ofInt (-8) = (Int32.ofInt (-8)))] <;> rfl) ?_
  refine x_goto (M := M_X11_layOnTape) (tgt := 3) dX11_layOnTape_42 (by decide) ?_
  refine x_iload_n (M := M_X11_layOnTape) dX11_layOnTape_3 rfl ?_
  refine x_if_lt (M := M_X11_layOnTape) (tgt := 45) dX11_layOnTape_4 (by decide) (fun _ => ?_) (fun q => absurd q (by decide +kernel))
  have o3942 := (f3941 166 _ (by decide) w3936)
  exact x_vret (M := M_X11_layOnTape) dX11_layOnTape_45 rfl ⟨rfl, (fr_tr f3941 (by decide) (fr_tr f3937 (by decide) (fr_tr f3933 (by decide) (fr_tr f3929 (by decide) (fr_tr f3925 (by decide) (fr_tr f3921 (by decide) (fr_tr f3917 (by decide) (fr_tr f3913 (by decide) fr_rf)))))))), ⟨o3942, w3940, trivial⟩⟩ (Nat.le_of_ble_eq_true rfl) (Nat.le_of_ble_eq_true rfl)
set_option maxRecDepth 10000 in
theorem q3983 {l : Launch} {E : EE} (hl : l.stackTraces = false) {h : HP} {a0 : Int32} {a1 : Int32} {a2 : Int32} {a3 : Int32} {a4 : Int32} (o3949 : ob h 32 = some (.inr (14, [.ref 33, .ref 162, .ref 166, .int (Int32.ofInt 16), .int (0 : Int32), .int (0 : Int32), .ref 167, .ref 170, .ref 173, .ref 177, .ref 193, .ref 208, .ref 222, .ref 238, .ref 252, .ref 274, .ref 275, .ref 276, .int (0 : Int32)]))) (o3950 : ob h 166 = some (.inl (2, 65536, .inl (upd (upd (upd (upd (upd (upd (upd (upd (upd (upd (upd (upd (upd (upd (upd (upd (fun _ => 0) 0 (vp_nar .byte (((a0.toUInt32 >>> ((Int32.ofInt 24).toUInt32 &&& Int32.toUInt32 31)).toInt32).toInt8.toInt32))) 1 (vp_nar .byte (((a0.toUInt32 >>> ((Int32.ofInt 16).toUInt32 &&& Int32.toUInt32 31)).toInt32).toInt8.toInt32))) 2 (vp_nar .byte (((a0.toUInt32 >>> ((Int32.ofInt 8).toUInt32 &&& Int32.toUInt32 31)).toInt32).toInt8.toInt32))) 3 (vp_nar .byte (((a0.toUInt32 >>> ((Int32.ofInt 0).toUInt32 &&& Int32.toUInt32 31)).toInt32).toInt8.toInt32))) 4 (vp_nar .byte (((a1.toUInt32 >>> ((Int32.ofInt 24).toUInt32 &&& Int32.toUInt32 31)).toInt32).toInt8.toInt32))) 5 (vp_nar .byte (((a1.toUInt32 >>> ((Int32.ofInt 16).toUInt32 &&& Int32.toUInt32 31)).toInt32).toInt8.toInt32))) 6 (vp_nar .byte (((a1.toUInt32 >>> ((Int32.ofInt 8).toUInt32 &&& Int32.toUInt32 31)).toInt32).toInt8.toInt32))) 7 (vp_nar .byte (((a1.toUInt32 >>> ((Int32.ofInt 0).toUInt32 &&& Int32.toUInt32 31)).toInt32).toInt8.toInt32))) 8 (vp_nar .byte (((a2.toUInt32 >>> ((Int32.ofInt 24).toUInt32 &&& Int32.toUInt32 31)).toInt32).toInt8.toInt32))) 9 (vp_nar .byte (((a2.toUInt32 >>> ((Int32.ofInt 16).toUInt32 &&& Int32.toUInt32 31)).toInt32).toInt8.toInt32))) 10 (vp_nar .byte (((a2.toUInt32 >>> ((Int32.ofInt 8).toUInt32 &&& Int32.toUInt32 31)).toInt32).toInt8.toInt32))) 11 (vp_nar .byte (((a2.toUInt32 >>> ((Int32.ofInt 0).toUInt32 &&& Int32.toUInt32 31)).toInt32).toInt8.toInt32))) 12 (vp_nar .byte (((a3.toUInt32 >>> ((Int32.ofInt 24).toUInt32 &&& Int32.toUInt32 31)).toInt32).toInt8.toInt32))) 13 (vp_nar .byte (((a3.toUInt32 >>> ((Int32.ofInt 16).toUInt32 &&& Int32.toUInt32 31)).toInt32).toInt8.toInt32))) 14 (vp_nar .byte (((a3.toUInt32 >>> ((Int32.ofInt 8).toUInt32 &&& Int32.toUInt32 31)).toInt32).toInt8.toInt32))) 15 (vp_nar .byte (((a3.toUInt32 >>> ((Int32.ofInt 0).toUInt32 &&& Int32.toUInt32 31)).toInt32).toInt8.toInt32)))))) : en_C l E M_X11_layOnTape 0 0 0 [.ref 32, .int a4] h (pF none [166, 32] h (fun h' => ob h' 166 = some (.inl (2, 65536, .inl (upd (upd (upd (upd (upd (upd (upd (upd (upd (upd (upd (upd (upd (upd (upd (upd (upd (upd (upd (upd (fun _ => 0) 0 (vp_nar .byte (((a0.toUInt32 >>> ((Int32.ofInt 24).toUInt32 &&& Int32.toUInt32 31)).toInt32).toInt8.toInt32))) 1 (vp_nar .byte (((a0.toUInt32 >>> ((Int32.ofInt 16).toUInt32 &&& Int32.toUInt32 31)).toInt32).toInt8.toInt32))) 2 (vp_nar .byte (((a0.toUInt32 >>> ((Int32.ofInt 8).toUInt32 &&& Int32.toUInt32 31)).toInt32).toInt8.toInt32))) 3 (vp_nar .byte (((a0.toUInt32 >>> ((Int32.ofInt 0).toUInt32 &&& Int32.toUInt32 31)).toInt32).toInt8.toInt32))) 4 (vp_nar .byte (((a1.toUInt32 >>> ((Int32.ofInt 24).toUInt32 &&& Int32.toUInt32 31)).toInt32).toInt8.toInt32))) 5 (vp_nar .byte (((a1.toUInt32 >>> ((Int32.ofInt 16).toUInt32 &&& Int32.toUInt32 31)).toInt32).toInt8.toInt32))) 6 (vp_nar .byte (((a1.toUInt32 >>> ((Int32.ofInt 8).toUInt32 &&& Int32.toUInt32 31)).toInt32).toInt8.toInt32))) 7 (vp_nar .byte (((a1.toUInt32 >>> ((Int32.ofInt 0).toUInt32 &&& Int32.toUInt32 31)).toInt32).toInt8.toInt32))) 8 (vp_nar .byte (((a2.toUInt32 >>> ((Int32.ofInt 24).toUInt32 &&& Int32.toUInt32 31)).toInt32).toInt8.toInt32))) 9 (vp_nar .byte (((a2.toUInt32 >>> ((Int32.ofInt 16).toUInt32 &&& Int32.toUInt32 31)).toInt32).toInt8.toInt32))) 10 (vp_nar .byte (((a2.toUInt32 >>> ((Int32.ofInt 8).toUInt32 &&& Int32.toUInt32 31)).toInt32).toInt8.toInt32))) 11 (vp_nar .byte (((a2.toUInt32 >>> ((Int32.ofInt 0).toUInt32 &&& Int32.toUInt32 31)).toInt32).toInt8.toInt32))) 12 (vp_nar .byte (((a3.toUInt32 >>> ((Int32.ofInt 24).toUInt32 &&& Int32.toUInt32 31)).toInt32).toInt8.toInt32))) 13 (vp_nar .byte (((a3.toUInt32 >>> ((Int32.ofInt 16).toUInt32 &&& Int32.toUInt32 31)).toInt32).toInt8.toInt32))) 14 (vp_nar .byte (((a3.toUInt32 >>> ((Int32.ofInt 8).toUInt32 &&& Int32.toUInt32 31)).toInt32).toInt8.toInt32))) 15 (vp_nar .byte (((a3.toUInt32 >>> ((Int32.ofInt 0).toUInt32 &&& Int32.toUInt32 31)).toInt32).toInt8.toInt32))) 16 (vp_nar .byte (((a4.toUInt32 >>> ((Int32.ofInt 24).toUInt32 &&& Int32.toUInt32 31)).toInt32).toInt8.toInt32))) 17 (vp_nar .byte (((a4.toUInt32 >>> ((Int32.ofInt 16).toUInt32 &&& Int32.toUInt32 31)).toInt32).toInt8.toInt32))) 18 (vp_nar .byte (((a4.toUInt32 >>> ((Int32.ofInt 8).toUInt32 &&& Int32.toUInt32 31)).toInt32).toInt8.toInt32))) 19 (vp_nar .byte (((a4.toUInt32 >>> ((Int32.ofInt 0).toUInt32 &&& Int32.toUInt32 31)).toInt32).toInt8.toInt32))))) ∧ ob h' 32 = some (.inr (14, [.ref 33, .ref 162, .ref 166, .int (Int32.ofInt 20), .int (0 : Int32), .int (0 : Int32), .ref 167, .ref 170, .ref 173, .ref 177, .ref 193, .ref 208, .ref 222, .ref 238, .ref 252, .ref 274, .ref 275, .ref 276, .int (0 : Int32)])) ∧ True)) := by
  refine en_mk m_X11_layOnTape rfl hl (Nat.le_of_ble_eq_true rfl) ?_
  refine x_bipush (M := M_X11_layOnTape) dX11_layOnTape_0 ?_
  refine x_top (M := M_X11_layOnTape) (y := (Int32.ofInt 24)) (by decide +kernel) ?_
  refine x_istore_n (M := M_X11_layOnTape) dX11_layOnTape_2 (Nat.le_of_ble_eq_true rfl) rfl ?_
  refine x_iload_n (M := M_X11_layOnTape) dX11_layOnTape_3 rfl ?_
  refine x_if_lt (M := M_X11_layOnTape) (tgt := 45) dX11_layOnTape_4 (by decide) (fun q => absurd q (by decide +kernel)) (fun _ => ?_)
  refine x_aload_n (M := M_X11_layOnTape) dX11_layOnTape_7 rfl ?_
  refine x_getf (M := M_X11_layOnTape) (ci := 14) (C := RX11) (T := TX11) (N := 19) (ty := tyX11) cl14 dX11_layOnTape_8 o3949 3 (by decide) t_566 (v := .int (Int32.ofInt 16)) rfl ?_
  refine x_ldc (M := M_X11_layOnTape) dX11_layOnTape_11 t_98 ?_
  refine x_icmp_ge (M := M_X11_layOnTape) (tgt := 45) dX11_layOnTape_13 (by decide) (fun q => absurd q (by decide +kernel)) (fun _ => ?_)
  refine x_aload_n (M := M_X11_layOnTape) dX11_layOnTape_16 rfl ?_
  refine x_getf (M := M_X11_layOnTape) (ci := 14) (C := RX11) (T := TX11) (N := 19) (ty := tyX11) cl14 dX11_layOnTape_17 o3949 2 (by decide) t_565 (v := .ref 166) rfl ?_
  refine x_aload_n (M := M_X11_layOnTape) dX11_layOnTape_20 rfl ?_
  refine x_getf (M := M_X11_layOnTape) (ci := 14) (C := RX11) (T := TX11) (N := 19) (ty := tyX11) cl14 dX11_layOnTape_21 o3949 3 (by decide) t_566 (v := .int (Int32.ofInt 16)) rfl ?_
  refine x_iload_n (M := M_X11_layOnTape) dX11_layOnTape_24 rfl ?_
  refine x_iload_n (M := M_X11_layOnTape) dX11_layOnTape_25 rfl ?_
  refine x_iushr (M := M_X11_layOnTape) dX11_layOnTape_26 ?_
  refine x_i2b (M := M_X11_layOnTape) dX11_layOnTape_27 ?_
  refine y_bast (M := M_X11_layOnTape) (k := 16) dX11_layOnTape_28 o3950 (vp_inD (by decide +kernel)) (by decide +kernel) (fun h3951 w3952 f3953 => ?_)
  refine x_aload_n (M := M_X11_layOnTape) dX11_layOnTape_29 rfl ?_
  refine x_dup (M := M_X11_layOnTape) dX11_layOnTape_30 rfl ?_
  have o3954 := (f3953 32 _ (by decide) o3949)
  refine x_getf (M := M_X11_layOnTape) (ci := 14) (C := RX11) (T := TX11) (N := 19) (ty := tyX11) cl14 dX11_layOnTape_31 o3954 3 (by decide) t_566 (v := .int (Int32.ofInt 16)) rfl ?_
  refine x_iconst (M := M_X11_layOnTape) dX11_layOnTape_34 ?_
  refine x_iadd (M := M_X11_layOnTape) dX11_layOnTape_35 ?_
  refine x_top (M := M_X11_layOnTape) (y := (Int32.ofInt 17)) (by decide +kernel) ?_
  refine y_put (M := M_X11_layOnTape) (ci := 14) (C := RX11) (T := TX11) (N := 19) (ty := tyX11) cl14 dX11_layOnTape_36 o3954 3 (by decide) t_566 (Or.inl rfl) (Nat.le_of_ble_eq_true rfl) rfl (fun h3955 (w3956 : ob h3955 32 = some (.inr (14, [.ref 33, .ref 162, .ref 166, .int (Int32.ofInt 17), .int (0 : Int32), .int (0 : Int32), .ref 167, .ref 170, .ref 173, .ref 177, .ref 193, .ref 208, .ref 222, .ref 238, .ref 252, .ref 274, .ref 275, .ref 276, .int (0 : Int32)]))) f3957 => ?_)
  refine x_iinc (M := M_X11_layOnTape) dX11_layOnTape_39 rfl (Nat.le_of_ble_eq_true rfl) rfl ?_
  refine x_lvs (M := M_X11_layOnTape) (lv' := [some (.ref 32), some (.int a4), some (.int (Int32.ofInt 16))]) (by rw [(by decide +kernel : (Int32.ofInt 24) + Int32.ofInt (-8) = (Int32.ofInt 16))] <;> rfl) ?_
  refine x_goto (M := M_X11_layOnTape) (tgt := 3) dX11_layOnTape_42 (by decide) ?_
  refine x_iload_n (M := M_X11_layOnTape) dX11_layOnTape_3 rfl ?_
  refine x_if_lt (M := M_X11_layOnTape) (tgt := 45) dX11_layOnTape_4 (by decide) (fun q => absurd q (by decide +kernel)) (fun _ => ?_)
  refine x_aload_n (M := M_X11_layOnTape) dX11_layOnTape_7 rfl ?_
  refine x_getf (M := M_X11_layOnTape) (ci := 14) (C := RX11) (T := TX11) (N := 19) (ty := tyX11) cl14 dX11_layOnTape_8 w3956 3 (by decide) t_566 (v := .int (Int32.ofInt 17)) rfl ?_
  refine x_ldc (M := M_X11_layOnTape) dX11_layOnTape_11 t_98 ?_
  refine x_icmp_ge (M := M_X11_layOnTape) (tgt := 45) dX11_layOnTape_13 (by decide) (fun q => absurd q (by decide +kernel)) (fun _ => ?_)
  refine x_aload_n (M := M_X11_layOnTape) dX11_layOnTape_16 rfl ?_
  refine x_getf (M := M_X11_layOnTape) (ci := 14) (C := RX11) (T := TX11) (N := 19) (ty := tyX11) cl14 dX11_layOnTape_17 w3956 2 (by decide) t_565 (v := .ref 166) rfl ?_
  refine x_aload_n (M := M_X11_layOnTape) dX11_layOnTape_20 rfl ?_
  refine x_getf (M := M_X11_layOnTape) (ci := 14) (C := RX11) (T := TX11) (N := 19) (ty := tyX11) cl14 dX11_layOnTape_21 w3956 3 (by decide) t_566 (v := .int (Int32.ofInt 17)) rfl ?_
  refine x_iload_n (M := M_X11_layOnTape) dX11_layOnTape_24 rfl ?_
  refine x_iload_n (M := M_X11_layOnTape) dX11_layOnTape_25 rfl ?_
  refine x_iushr (M := M_X11_layOnTape) dX11_layOnTape_26 ?_
  refine x_i2b (M := M_X11_layOnTape) dX11_layOnTape_27 ?_
  have o3958 := (f3957 166 _ (by decide) w3952)
  refine y_bast (M := M_X11_layOnTape) (k := 17) dX11_layOnTape_28 o3958 (vp_inD (by decide +kernel)) (by decide +kernel) (fun h3959 w3960 f3961 => ?_)
  refine x_aload_n (M := M_X11_layOnTape) dX11_layOnTape_29 rfl ?_
  refine x_dup (M := M_X11_layOnTape) dX11_layOnTape_30 rfl ?_
  have o3962 := (f3961 32 _ (by decide) w3956)
  refine x_getf (M := M_X11_layOnTape) (ci := 14) (C := RX11) (T := TX11) (N := 19) (ty := tyX11) cl14 dX11_layOnTape_31 o3962 3 (by decide) t_566 (v := .int (Int32.ofInt 17)) rfl ?_
  refine x_iconst (M := M_X11_layOnTape) dX11_layOnTape_34 ?_
  refine x_iadd (M := M_X11_layOnTape) dX11_layOnTape_35 ?_
  refine x_top (M := M_X11_layOnTape) (y := (Int32.ofInt 18)) (by decide +kernel) ?_
  refine y_put (M := M_X11_layOnTape) (ci := 14) (C := RX11) (T := TX11) (N := 19) (ty := tyX11) cl14 dX11_layOnTape_36 o3962 3 (by decide) t_566 (Or.inl rfl) (Nat.le_of_ble_eq_true rfl) rfl (fun h3963 (w3964 : ob h3963 32 = some (.inr (14, [.ref 33, .ref 162, .ref 166, .int (Int32.ofInt 18), .int (0 : Int32), .int (0 : Int32), .ref 167, .ref 170, .ref 173, .ref 177, .ref 193, .ref 208, .ref 222, .ref 238, .ref 252, .ref 274, .ref 275, .ref 276, .int (0 : Int32)]))) f3965 => ?_)
  refine x_iinc (M := M_X11_layOnTape) dX11_layOnTape_39 rfl (Nat.le_of_ble_eq_true rfl) rfl ?_
  refine x_lvs (M := M_X11_layOnTape) (lv' := [some (.ref 32), some (.int a4), some (.int (Int32.ofInt 8))]) (by rw [(by decide +kernel : (Int32.ofInt 16) + Int32.ofInt (-8) = (Int32.ofInt 8))] <;> rfl) ?_
  refine x_goto (M := M_X11_layOnTape) (tgt := 3) dX11_layOnTape_42 (by decide) ?_
  refine x_iload_n (M := M_X11_layOnTape) dX11_layOnTape_3 rfl ?_
  refine x_if_lt (M := M_X11_layOnTape) (tgt := 45) dX11_layOnTape_4 (by decide) (fun q => absurd q (by decide +kernel)) (fun _ => ?_)
  refine x_aload_n (M := M_X11_layOnTape) dX11_layOnTape_7 rfl ?_
  refine x_getf (M := M_X11_layOnTape) (ci := 14) (C := RX11) (T := TX11) (N := 19) (ty := tyX11) cl14 dX11_layOnTape_8 w3964 3 (by decide) t_566 (v := .int (Int32.ofInt 18)) rfl ?_
  refine x_ldc (M := M_X11_layOnTape) dX11_layOnTape_11 t_98 ?_
  refine x_icmp_ge (M := M_X11_layOnTape) (tgt := 45) dX11_layOnTape_13 (by decide) (fun q => absurd q (by decide +kernel)) (fun _ => ?_)
  refine x_aload_n (M := M_X11_layOnTape) dX11_layOnTape_16 rfl ?_
  refine x_getf (M := M_X11_layOnTape) (ci := 14) (C := RX11) (T := TX11) (N := 19) (ty := tyX11) cl14 dX11_layOnTape_17 w3964 2 (by decide) t_565 (v := .ref 166) rfl ?_
  refine x_aload_n (M := M_X11_layOnTape) dX11_layOnTape_20 rfl ?_
  refine x_getf (M := M_X11_layOnTape) (ci := 14) (C := RX11) (T := TX11) (N := 19) (ty := tyX11) cl14 dX11_layOnTape_21 w3964 3 (by decide) t_566 (v := .int (Int32.ofInt 18)) rfl ?_
  refine x_iload_n (M := M_X11_layOnTape) dX11_layOnTape_24 rfl ?_
  refine x_iload_n (M := M_X11_layOnTape) dX11_layOnTape_25 rfl ?_
  refine x_iushr (M := M_X11_layOnTape) dX11_layOnTape_26 ?_
  refine x_i2b (M := M_X11_layOnTape) dX11_layOnTape_27 ?_
  have o3966 := (f3965 166 _ (by decide) w3960)
  refine y_bast (M := M_X11_layOnTape) (k := 18) dX11_layOnTape_28 o3966 (vp_inD (by decide +kernel)) (by decide +kernel) (fun h3967 w3968 f3969 => ?_)
  refine x_aload_n (M := M_X11_layOnTape) dX11_layOnTape_29 rfl ?_
  refine x_dup (M := M_X11_layOnTape) dX11_layOnTape_30 rfl ?_
  have o3970 := (f3969 32 _ (by decide) w3964)
  refine x_getf (M := M_X11_layOnTape) (ci := 14) (C := RX11) (T := TX11) (N := 19) (ty := tyX11) cl14 dX11_layOnTape_31 o3970 3 (by decide) t_566 (v := .int (Int32.ofInt 18)) rfl ?_
  refine x_iconst (M := M_X11_layOnTape) dX11_layOnTape_34 ?_
  refine x_iadd (M := M_X11_layOnTape) dX11_layOnTape_35 ?_
  refine x_top (M := M_X11_layOnTape) (y := (Int32.ofInt 19)) (by decide +kernel) ?_
  refine y_put (M := M_X11_layOnTape) (ci := 14) (C := RX11) (T := TX11) (N := 19) (ty := tyX11) cl14 dX11_layOnTape_36 o3970 3 (by decide) t_566 (Or.inl rfl) (Nat.le_of_ble_eq_true rfl) rfl (fun h3971 (w3972 : ob h3971 32 = some (.inr (14, [.ref 33, .ref 162, .ref 166, .int (Int32.ofInt 19), .int (0 : Int32), .int (0 : Int32), .ref 167, .ref 170, .ref 173, .ref 177, .ref 193, .ref 208, .ref 222, .ref 238, .ref 252, .ref 274, .ref 275, .ref 276, .int (0 : Int32)]))) f3973 => ?_)
  refine x_iinc (M := M_X11_layOnTape) dX11_layOnTape_39 rfl (Nat.le_of_ble_eq_true rfl) rfl ?_
  refine x_lvs (M := M_X11_layOnTape) (lv' := [some (.ref 32), some (.int a4), some (.int (Int32.ofInt 0))]) (by rw [(by decide +kernel : (Int32.ofInt 8) + Int32.ofInt (-8) = (Int32.ofInt 0))] <;> rfl) ?_
  refine x_goto (M := M_X11_layOnTape) (tgt := 3) dX11_layOnTape_42 (by decide) ?_
  refine x_iload_n (M := M_X11_layOnTape) dX11_layOnTape_3 rfl ?_
  refine x_if_lt (M := M_X11_layOnTape) (tgt := 45) dX11_layOnTape_4 (by decide) (fun q => absurd q (by decide +kernel)) (fun _ => ?_)
  refine x_aload_n (M := M_X11_layOnTape) dX11_layOnTape_7 rfl ?_
  refine x_getf (M := M_X11_layOnTape) (ci := 14) (C := RX11) (T := TX11) (N := 19) (ty := tyX11) cl14 dX11_layOnTape_8 w3972 3 (by decide) t_566 (v := .int (Int32.ofInt 19)) rfl ?_
  refine x_ldc (M := M_X11_layOnTape) dX11_layOnTape_11 t_98 ?_
  refine x_icmp_ge (M := M_X11_layOnTape) (tgt := 45) dX11_layOnTape_13 (by decide) (fun q => absurd q (by decide +kernel)) (fun _ => ?_)
  refine x_aload_n (M := M_X11_layOnTape) dX11_layOnTape_16 rfl ?_
  refine x_getf (M := M_X11_layOnTape) (ci := 14) (C := RX11) (T := TX11) (N := 19) (ty := tyX11) cl14 dX11_layOnTape_17 w3972 2 (by decide) t_565 (v := .ref 166) rfl ?_
  refine x_aload_n (M := M_X11_layOnTape) dX11_layOnTape_20 rfl ?_
  refine x_getf (M := M_X11_layOnTape) (ci := 14) (C := RX11) (T := TX11) (N := 19) (ty := tyX11) cl14 dX11_layOnTape_21 w3972 3 (by decide) t_566 (v := .int (Int32.ofInt 19)) rfl ?_
  refine x_iload_n (M := M_X11_layOnTape) dX11_layOnTape_24 rfl ?_
  refine x_iload_n (M := M_X11_layOnTape) dX11_layOnTape_25 rfl ?_
  refine x_iushr (M := M_X11_layOnTape) dX11_layOnTape_26 ?_
  refine x_i2b (M := M_X11_layOnTape) dX11_layOnTape_27 ?_
  have o3974 := (f3973 166 _ (by decide) w3968)
  refine y_bast (M := M_X11_layOnTape) (k := 19) dX11_layOnTape_28 o3974 (vp_inD (by decide +kernel)) (by decide +kernel) (fun h3975 w3976 f3977 => ?_)
  refine x_aload_n (M := M_X11_layOnTape) dX11_layOnTape_29 rfl ?_
  refine x_dup (M := M_X11_layOnTape) dX11_layOnTape_30 rfl ?_
  have o3978 := (f3977 32 _ (by decide) w3972)
  refine x_getf (M := M_X11_layOnTape) (ci := 14) (C := RX11) (T := TX11) (N := 19) (ty := tyX11) cl14 dX11_layOnTape_31 o3978 3 (by decide) t_566 (v := .int (Int32.ofInt 19)) rfl ?_
  refine x_iconst (M := M_X11_layOnTape) dX11_layOnTape_34 ?_
  refine x_iadd (M := M_X11_layOnTape) dX11_layOnTape_35 ?_
  refine x_top (M := M_X11_layOnTape) (y := (Int32.ofInt 20)) (by decide +kernel) ?_
  refine y_put (M := M_X11_layOnTape) (ci := 14) (C := RX11) (T := TX11) (N := 19) (ty := tyX11) cl14 dX11_layOnTape_36 o3978 3 (by decide) t_566 (Or.inl rfl) (Nat.le_of_ble_eq_true rfl) rfl (fun h3979 (w3980 : ob h3979 32 = some (.inr (14, [.ref 33, .ref 162, .ref 166, .int (Int32.ofInt 20), .int (0 : Int32), .int (0 : Int32), .ref 167, .ref 170, .ref 173, .ref 177, .ref 193, .ref 208, .ref 222, .ref 238, .ref 252, .ref 274, .ref 275, .ref 276, .int (0 : Int32)]))) f3981 => ?_)
  refine x_iinc (M := M_X11_layOnTape) dX11_layOnTape_39 rfl (Nat.le_of_ble_eq_true rfl) rfl ?_
  refine x_lvs (M := M_X11_layOnTape) (lv' := [some (.ref 32), some (.int a4), some (.int (Int32.ofInt (-8)))]) (by rw [(by decide +kernel : (Int32.ofInt 0) + Int32.ofInt (-8) = (Int32.ofInt (-8)))] <;> rfl) ?_
  refine x_goto (M := M_X11_layOnTape) (tgt := 3) dX11_layOnTape_42 (by decide) ?_
  refine x_iload_n (M := M_X11_layOnTape) dX11_layOnTape_3 rfl ?_
  refine x_if_lt (M := M_X11_layOnTape) (tgt := 45) dX11_layOnTape_4 (by decide) (fun _ => ?_) (fun q => absurd q (by decide +kernel))
  have o3982 := (f3981 166 _ (by decide) w3976)
  exact x_vret (M := M_X11_layOnTape) dX11_layOnTape_45 rfl ⟨rfl, (fr_tr f3981 (by decide) (fr_tr f3977 (by decide) (fr_tr f3973 (by decide) (fr_tr f3969 (by decide) (fr_tr f3965 (by decide) (fr_tr f3961 (by decide) (fr_tr f3957 (by decide) (fr_tr f3953 (by decide) fr_rf)))))))), ⟨o3982, w3980, trivial⟩⟩ (Nat.le_of_ble_eq_true rfl) (Nat.le_of_ble_eq_true rfl)
set_option maxRecDepth 10000 in
theorem q3989 {l : Launch} {E : EE} (hl : l.stackTraces = false) {h : HP} {a0 : Int32} {a1 : Int32} {a2 : Int32} {a3 : Int32} {a4 : Int32} (o3787 : ob h 32 = some (.inr (14, [.ref 33, .ref 162, .ref 166, .int (0 : Int32), .int (0 : Int32), .int (0 : Int32), .ref 167, .ref 170, .ref 173, .ref 177, .ref 193, .ref 208, .ref 222, .ref 238, .ref 252, .ref 274, .ref 275, .ref 276, .int (0 : Int32)]))) (o3823 : ob h 166 = some (.inl (2, 65536, .inl (fun _ => 0)))) : en_C l E M_X11_feed 1 0 0 [.ref 32, .int a0, .int a1, .int a2, .int a3, .int a4] h (pF (some (.int (Int32.ofInt 20))) [166, 32] h (fun h' => ob h' 166 = some (.inl (2, 65536, .inl (upd (upd (upd (upd (upd (upd (upd (upd (upd (upd (upd (upd (upd (upd (upd (upd (upd (upd (upd (upd (fun _ => 0) 0 (vp_nar .byte (((a0.toUInt32 >>> ((Int32.ofInt 24).toUInt32 &&& Int32.toUInt32 31)).toInt32).toInt8.toInt32))) 1 (vp_nar .byte (((a0.toUInt32 >>> ((Int32.ofInt 16).toUInt32 &&& Int32.toUInt32 31)).toInt32).toInt8.toInt32))) 2 (vp_nar .byte (((a0.toUInt32 >>> ((Int32.ofInt 8).toUInt32 &&& Int32.toUInt32 31)).toInt32).toInt8.toInt32))) 3 (vp_nar .byte (((a0.toUInt32 >>> ((Int32.ofInt 0).toUInt32 &&& Int32.toUInt32 31)).toInt32).toInt8.toInt32))) 4 (vp_nar .byte (((a1.toUInt32 >>> ((Int32.ofInt 24).toUInt32 &&& Int32.toUInt32 31)).toInt32).toInt8.toInt32))) 5 (vp_nar .byte (((a1.toUInt32 >>> ((Int32.ofInt 16).toUInt32 &&& Int32.toUInt32 31)).toInt32).toInt8.toInt32))) 6 (vp_nar .byte (((a1.toUInt32 >>> ((Int32.ofInt 8).toUInt32 &&& Int32.toUInt32 31)).toInt32).toInt8.toInt32))) 7 (vp_nar .byte (((a1.toUInt32 >>> ((Int32.ofInt 0).toUInt32 &&& Int32.toUInt32 31)).toInt32).toInt8.toInt32))) 8 (vp_nar .byte (((a2.toUInt32 >>> ((Int32.ofInt 24).toUInt32 &&& Int32.toUInt32 31)).toInt32).toInt8.toInt32))) 9 (vp_nar .byte (((a2.toUInt32 >>> ((Int32.ofInt 16).toUInt32 &&& Int32.toUInt32 31)).toInt32).toInt8.toInt32))) 10 (vp_nar .byte (((a2.toUInt32 >>> ((Int32.ofInt 8).toUInt32 &&& Int32.toUInt32 31)).toInt32).toInt8.toInt32))) 11 (vp_nar .byte (((a2.toUInt32 >>> ((Int32.ofInt 0).toUInt32 &&& Int32.toUInt32 31)).toInt32).toInt8.toInt32))) 12 (vp_nar .byte (((a3.toUInt32 >>> ((Int32.ofInt 24).toUInt32 &&& Int32.toUInt32 31)).toInt32).toInt8.toInt32))) 13 (vp_nar .byte (((a3.toUInt32 >>> ((Int32.ofInt 16).toUInt32 &&& Int32.toUInt32 31)).toInt32).toInt8.toInt32))) 14 (vp_nar .byte (((a3.toUInt32 >>> ((Int32.ofInt 8).toUInt32 &&& Int32.toUInt32 31)).toInt32).toInt8.toInt32))) 15 (vp_nar .byte (((a3.toUInt32 >>> ((Int32.ofInt 0).toUInt32 &&& Int32.toUInt32 31)).toInt32).toInt8.toInt32))) 16 (vp_nar .byte (((a4.toUInt32 >>> ((Int32.ofInt 24).toUInt32 &&& Int32.toUInt32 31)).toInt32).toInt8.toInt32))) 17 (vp_nar .byte (((a4.toUInt32 >>> ((Int32.ofInt 16).toUInt32 &&& Int32.toUInt32 31)).toInt32).toInt8.toInt32))) 18 (vp_nar .byte (((a4.toUInt32 >>> ((Int32.ofInt 8).toUInt32 &&& Int32.toUInt32 31)).toInt32).toInt8.toInt32))) 19 (vp_nar .byte (((a4.toUInt32 >>> ((Int32.ofInt 0).toUInt32 &&& Int32.toUInt32 31)).toInt32).toInt8.toInt32))))) ∧ ob h' 32 = some (.inr (14, [.ref 33, .ref 162, .ref 166, .int (Int32.ofInt 20), .int (0 : Int32), .int (0 : Int32), .ref 167, .ref 170, .ref 173, .ref 177, .ref 193, .ref 208, .ref 222, .ref 238, .ref 252, .ref 274, .ref 275, .ref 276, .int (0 : Int32)])) ∧ True)) := by
  refine en_mk m_X11_feed rfl hl (Nat.le_of_ble_eq_true rfl) ?_
  refine x_aload_n (M := M_X11_feed) dX11_feed_0 rfl ?_
  refine x_getf (M := M_X11_feed) (ci := 14) (C := RX11) (T := TX11) (N := 19) (ty := tyX11) cl14 dX11_feed_1 o3787 3 (by decide) t_566 (v := .int (0 : Int32)) rfl ?_
  refine x_ldc (M := M_X11_feed) dX11_feed_4 t_642 ?_
  refine x_icmp_le (M := M_X11_feed) (tgt := 17) dX11_feed_6 (by decide) (fun _ => ?_) (fun q => absurd q (by decide +kernel))
  refine x_aload_n (M := M_X11_feed) dX11_feed_17 rfl ?_
  refine x_iload_n (M := M_X11_feed) dX11_feed_18 rfl ?_
  refine y_callVR (M := M_X11_feed) (M' := M_X11_layOnTape) rfl rfl dX11_feed_19 m_X11_layOnTape t_709 t_711 s_1 (q3822 hl o3787 o3823) rfl rfl o3787 rfl (Nat.le_of_ble_eq_true rfl) (Nat.le_of_ble_eq_true rfl) (Nat.le_of_ble_eq_true rfl) (Nat.le_of_ble_eq_true rfl) (fun h3824 f3825 w3826 => ?_)
  obtain ⟨o3827, o3828, -⟩ := w3826
  refine x_aload_n (M := M_X11_feed) dX11_feed_22 rfl ?_
  refine x_iload_n (M := M_X11_feed) dX11_feed_23 rfl ?_
  refine y_callVR (M := M_X11_feed) (M' := M_X11_layOnTape) rfl rfl dX11_feed_24 m_X11_layOnTape t_709 t_711 s_1 (q3863 hl o3828 o3827) rfl rfl o3828 rfl (Nat.le_of_ble_eq_true rfl) (Nat.le_of_ble_eq_true rfl) (Nat.le_of_ble_eq_true rfl) (Nat.le_of_ble_eq_true rfl) (fun h3864 f3865 w3866 => ?_)
  obtain ⟨o3867, o3868, -⟩ := w3866
  refine x_aload_n (M := M_X11_feed) dX11_feed_27 rfl ?_
  refine x_iload_n (M := M_X11_feed) dX11_feed_28 rfl ?_
  refine y_callVR (M := M_X11_feed) (M' := M_X11_layOnTape) rfl rfl dX11_feed_29 m_X11_layOnTape t_709 t_711 s_1 (q3903 hl o3868 o3867) rfl rfl o3868 rfl (Nat.le_of_ble_eq_true rfl) (Nat.le_of_ble_eq_true rfl) (Nat.le_of_ble_eq_true rfl) (Nat.le_of_ble_eq_true rfl) (fun h3904 f3905 w3906 => ?_)
  obtain ⟨o3907, o3908, -⟩ := w3906
  refine x_aload_n (M := M_X11_feed) dX11_feed_32 rfl ?_
  refine x_iload (M := M_X11_feed) dX11_feed_33 rfl ?_
  refine y_callVR (M := M_X11_feed) (M' := M_X11_layOnTape) rfl rfl dX11_feed_35 m_X11_layOnTape t_709 t_711 s_1 (q3943 hl o3908 o3907) rfl rfl o3908 rfl (Nat.le_of_ble_eq_true rfl) (Nat.le_of_ble_eq_true rfl) (Nat.le_of_ble_eq_true rfl) (Nat.le_of_ble_eq_true rfl) (fun h3944 f3945 w3946 => ?_)
  obtain ⟨o3947, o3948, -⟩ := w3946
  refine x_aload_n (M := M_X11_feed) dX11_feed_38 rfl ?_
  refine x_iload (M := M_X11_feed) dX11_feed_39 rfl ?_
  refine y_callVR (M := M_X11_feed) (M' := M_X11_layOnTape) rfl rfl dX11_feed_41 m_X11_layOnTape t_709 t_711 s_1 (q3983 hl o3948 o3947) rfl rfl o3948 rfl (Nat.le_of_ble_eq_true rfl) (Nat.le_of_ble_eq_true rfl) (Nat.le_of_ble_eq_true rfl) (Nat.le_of_ble_eq_true rfl) (fun h3984 f3985 w3986 => ?_)
  obtain ⟨o3987, o3988, -⟩ := w3986
  refine x_aload_n (M := M_X11_feed) dX11_feed_44 rfl ?_
  refine x_getf (M := M_X11_feed) (ci := 14) (C := RX11) (T := TX11) (N := 19) (ty := tyX11) cl14 dX11_feed_45 o3988 3 (by decide) t_566 (v := .int (Int32.ofInt 20)) rfl ?_
  exact x_iret (M := M_X11_feed) dX11_feed_48 rfl ⟨rfl, (fr_tr f3985 (by decide) (fr_tr f3945 (by decide) (fr_tr f3905 (by decide) (fr_tr f3865 (by decide) (fr_tr f3825 (by decide) fr_rf))))), ⟨o3987, o3988, trivial⟩⟩ (Nat.le_of_ble_eq_true rfl) (Nat.le_of_ble_eq_true rfl)
set_option maxRecDepth 10000 in
theorem q4002 {l : Launch} {E : EE} (hl : l.stackTraces = false) {h : HP} {a0 : Int32} {a1 : Int32} {a2 : Int32} {a3 : Int32} {a4 : Int32} (o3990 : ob h 32 = some (.inr (14, [.ref 33, .ref 162, .ref 166, .int (0 : Int32), .int (0 : Int32), .int (0 : Int32), .ref 167, .ref 170, .ref 173, .ref 177, .ref 193, .ref 208, .ref 222, .ref 238, .ref 252, .ref 274, .ref 275, .ref 276, .int (0 : Int32)]))) (o3991 : ob h 166 = some (.inl (2, 65536, .inl (fun _ => 0)))) (o3997 : ob h 359 = some (.inl (1, 1, .inr (.inl (fun _ => 0))))) : en_C l E M_L_feed 2 0 0 [.ref 32, .int a0, .int a1, .int a2, .int a3, .int a4, .ref 359] h (pF (some (.int (Int32.ofInt 0))) [166, 32, 359] h (fun h' => ob h' 359 = some (.inl (1, 1, .inr (.inl (vp_updL (fun _ => 0) 0 (Int64.ofInt 20))))) ∧ True)) := by
  refine en_mkW m_L_feed rfl hl (Nat.le_of_ble_eq_true rfl) ?_
  refine x_aload (M := M_L_feed) dL_feed_0 rfl ?_
  refine x_iconst (M := M_L_feed) dL_feed_2 ?_
  refine x_aload_n (M := M_L_feed) dL_feed_3 rfl ?_
  refine x_iload_n (M := M_L_feed) dL_feed_4 rfl ?_
  refine x_iload_n (M := M_L_feed) dL_feed_5 rfl ?_
  refine x_iload_n (M := M_L_feed) dL_feed_6 rfl ?_
  refine x_iload (M := M_L_feed) dL_feed_7 rfl ?_
  refine x_iload (M := M_L_feed) dL_feed_9 rfl ?_
  refine y_callVHR (M := M_L_feed) (M' := M_X11_feed) rfl dL_feed_11 m_X11_feed t_638 t_639 t_640 o3990 rfl (q3989 hl o3990 o3991) rfl rfl (Nat.le_of_ble_eq_true rfl) (Nat.le_of_ble_eq_true rfl) (Nat.le_of_ble_eq_true rfl) (Nat.le_of_ble_eq_true rfl) (fun h3992 f3993 w3994 => ?_)
  obtain ⟨o3995, o3996, -⟩ := w3994
  refine x_i2l (M := M_L_feed) dL_feed_14 ?_
  refine x_norm (M := M_L_feed) (st' := [.long (Int64.ofInt 20), .int (Int32.ofInt 0), .ref 359]) rfl (vj_cons (by decide +kernel : ((Int32.ofInt 20).toInt64) = (Int64.ofInt 20)) rfl) rfl rfl rfl ?_
  have o3998 := (f3993 359 _ (by decide) o3997)
  refine y_last (M := M_L_feed) (k := 0) dL_feed_15 o3998 (vp_inD (by decide +kernel)) (by decide +kernel) (fun h3999 w4000 f4001 => ?_)
  refine x_goto (M := M_L_feed) (tgt := 23) dL_feed_16 (by decide) ?_
  refine x_iconst (M := M_L_feed) dL_feed_23 ?_
  exact x_iret (M := M_L_feed) dL_feed_24 rfl ⟨rfl, (fr_tr f4001 (by decide) (fr_tr f3993 (by decide) fr_rf)), ⟨w4000, trivial⟩⟩ (Nat.le_of_ble_eq_true rfl) (Nat.le_of_ble_eq_true rfl)
set_option maxRecDepth 10000 in
theorem q4055 {l : Launch} {E : EE} (hl : l.stackTraces = false) {h : HP} {a0 : Int32} {dg : Int32} (o4018 : ob h 277 = some (.inr (15, ((RB dg).set 0 (.int (Int32.ofInt 0)))))) (o4019 : ob h 278 = some (.inl (2, 65536, .inl (fun _ => 0)))) : en_C l E M_X12_four 0 0 0 [.ref 277, .int a0] h (pF none [278, 277] h (fun h' => ob h' 278 = some (.inl (2, 65536, .inl (upd (upd (upd (upd (fun _ => 0) 0 (vp_nar .byte ((a0 >>> ((Int32.ofInt 24) &&& 31)).toInt8.toInt32))) 1 (vp_nar .byte ((a0 >>> ((Int32.ofInt 16) &&& 31)).toInt8.toInt32))) 2 (vp_nar .byte ((a0 >>> ((Int32.ofInt 8) &&& 31)).toInt8.toInt32))) 3 (vp_nar .byte ((a0 >>> ((Int32.ofInt 0) &&& 31)).toInt8.toInt32))))) ∧ ob h' 277 = some (.inr (15, (((RB dg).set 0 (.int (Int32.ofInt 0))).set 4 (.int (Int32.ofInt 4))))) ∧ True)) := by
  refine en_mk m_X12_four rfl hl (Nat.le_of_ble_eq_true rfl) ?_
  refine x_bipush (M := M_X12_four) dX12_four_0 ?_
  refine x_top (M := M_X12_four) (y := (Int32.ofInt 24)) (by decide +kernel) ?_
  refine x_istore_n (M := M_X12_four) dX12_four_2 (Nat.le_of_ble_eq_true rfl) rfl ?_
  refine x_iload_n (M := M_X12_four) dX12_four_3 rfl ?_
  refine x_if_lt (M := M_X12_four) (tgt := 36) dX12_four_4 (by decide) (fun q => absurd q (by decide +kernel)) (fun _ => ?_)
  refine x_aload_n (M := M_X12_four) dX12_four_7 rfl ?_
  refine x_getf (M := M_X12_four) (ci := 15) (C := RX12) (T := TX12) (N := 135) (ty := tyX12) cl15 dX12_four_8 o4018 3 (by decide) t_2394 (v := .ref 278) rfl ?_
  refine x_aload_n (M := M_X12_four) dX12_four_11 rfl ?_
  refine x_getf (M := M_X12_four) (ci := 15) (C := RX12) (T := TX12) (N := 135) (ty := tyX12) cl15 dX12_four_12 o4018 4 (by decide) t_2395 (v := .int (0 : Int32)) rfl ?_
  refine x_iload_n (M := M_X12_four) dX12_four_15 rfl ?_
  refine x_iload_n (M := M_X12_four) dX12_four_16 rfl ?_
  refine x_ishr (M := M_X12_four) dX12_four_17 ?_
  refine x_i2b (M := M_X12_four) dX12_four_18 ?_
  refine x_norm (M := M_X12_four) (st' := [.int ((a0 >>> ((Int32.ofInt 24) &&& 31)).toInt8.toInt32), .int (Int32.ofInt 0), .ref 278]) rfl (v_cons (vi_cons (by decide +kernel : (0 : Int32) = (Int32.ofInt 0)) rfl)) rfl rfl rfl ?_
  refine y_bast (M := M_X12_four) (k := 0) dX12_four_19 o4019 (vp_inD (by decide +kernel)) (by decide +kernel) (fun h4020 w4021 f4022 => ?_)
  refine x_aload_n (M := M_X12_four) dX12_four_20 rfl ?_
  refine x_dup (M := M_X12_four) dX12_four_21 rfl ?_
  have o4023 := (f4022 277 _ (by decide) o4018)
  refine x_getf (M := M_X12_four) (ci := 15) (C := RX12) (T := TX12) (N := 135) (ty := tyX12) cl15 dX12_four_22 o4023 4 (by decide) t_2395 (v := .int (0 : Int32)) rfl ?_
  refine x_iconst (M := M_X12_four) dX12_four_25 ?_
  refine x_iadd (M := M_X12_four) dX12_four_26 ?_
  refine x_top (M := M_X12_four) (y := (Int32.ofInt 1)) (by decide +kernel) ?_
  refine y_put (M := M_X12_four) (ci := 15) (C := RX12) (T := TX12) (N := 135) (ty := tyX12) cl15 dX12_four_27 o4023 4 (by decide) t_2395 (Or.inl rfl) (Nat.le_of_ble_eq_true rfl) rfl (fun h4024 w4025 f4026 => ?_)
  refine x_iinc (M := M_X12_four) dX12_four_30 rfl (Nat.le_of_ble_eq_true rfl) rfl ?_
  refine x_lvs (M := M_X12_four) (lv' := [some (.ref 277), some (.int a0), some (.int (Int32.ofInt 16))]) (by rw [(by decide +kernel : (Int32.ofInt 24) + Int32.ofInt (-8) = (Int32.ofInt 16))] <;> rfl) ?_
  refine x_goto (M := M_X12_four) (tgt := 3) dX12_four_33 (by decide) ?_
  refine x_iload_n (M := M_X12_four) dX12_four_3 rfl ?_
  refine x_if_lt (M := M_X12_four) (tgt := 36) dX12_four_4 (by decide) (fun q => absurd q (by decide +kernel)) (fun _ => ?_)
  refine x_aload_n (M := M_X12_four) dX12_four_7 rfl ?_
  refine x_getf (M := M_X12_four) (ci := 15) (C := RX12) (T := TX12) (N := 135) (ty := tyX12) cl15 dX12_four_8 w4025 3 (by decide) t_2394 (v := .ref 278) rfl ?_
  refine x_aload_n (M := M_X12_four) dX12_four_11 rfl ?_
  refine x_getf (M := M_X12_four) (ci := 15) (C := RX12) (T := TX12) (N := 135) (ty := tyX12) cl15 dX12_four_12 w4025 4 (by decide) t_2395 (v := .int (Int32.ofInt 1)) rfl ?_
  refine x_iload_n (M := M_X12_four) dX12_four_15 rfl ?_
  refine x_iload_n (M := M_X12_four) dX12_four_16 rfl ?_
  refine x_ishr (M := M_X12_four) dX12_four_17 ?_
  refine x_i2b (M := M_X12_four) dX12_four_18 ?_
  have o4027 := (f4026 278 _ (by decide) w4021)
  refine y_bast (M := M_X12_four) (k := 1) dX12_four_19 o4027 (vp_inD (by decide +kernel)) (by decide +kernel) (fun h4028 w4029 f4030 => ?_)
  refine x_aload_n (M := M_X12_four) dX12_four_20 rfl ?_
  refine x_dup (M := M_X12_four) dX12_four_21 rfl ?_
  have o4031 := (f4030 277 _ (by decide) w4025)
  refine x_getf (M := M_X12_four) (ci := 15) (C := RX12) (T := TX12) (N := 135) (ty := tyX12) cl15 dX12_four_22 o4031 4 (by decide) t_2395 (v := .int (Int32.ofInt 1)) rfl ?_
  refine x_iconst (M := M_X12_four) dX12_four_25 ?_
  refine x_iadd (M := M_X12_four) dX12_four_26 ?_
  refine x_top (M := M_X12_four) (y := (Int32.ofInt 2)) (by decide +kernel) ?_
  refine y_put (M := M_X12_four) (ci := 15) (C := RX12) (T := TX12) (N := 135) (ty := tyX12) cl15 dX12_four_27 o4031 4 (by decide) t_2395 (Or.inl rfl) (Nat.le_of_ble_eq_true rfl) rfl (fun h4032 w4033 f4034 => ?_)
  have w4035 : ob h4032 277 = some (.inr (15, (((RB dg).set 0 (.int (Int32.ofInt 0))).set 4 (.int (Int32.ofInt 2))))) := by rw [w4033, List.set_set]
  refine x_iinc (M := M_X12_four) dX12_four_30 rfl (Nat.le_of_ble_eq_true rfl) rfl ?_
  refine x_lvs (M := M_X12_four) (lv' := [some (.ref 277), some (.int a0), some (.int (Int32.ofInt 8))]) (by rw [(by decide +kernel : (Int32.ofInt 16) + Int32.ofInt (-8) = (Int32.ofInt 8))] <;> rfl) ?_
  refine x_goto (M := M_X12_four) (tgt := 3) dX12_four_33 (by decide) ?_
  refine x_iload_n (M := M_X12_four) dX12_four_3 rfl ?_
  refine x_if_lt (M := M_X12_four) (tgt := 36) dX12_four_4 (by decide) (fun q => absurd q (by decide +kernel)) (fun _ => ?_)
  refine x_aload_n (M := M_X12_four) dX12_four_7 rfl ?_
  refine x_getf (M := M_X12_four) (ci := 15) (C := RX12) (T := TX12) (N := 135) (ty := tyX12) cl15 dX12_four_8 w4035 3 (by decide) t_2394 (v := .ref 278) rfl ?_
  refine x_aload_n (M := M_X12_four) dX12_four_11 rfl ?_
  refine x_getf (M := M_X12_four) (ci := 15) (C := RX12) (T := TX12) (N := 135) (ty := tyX12) cl15 dX12_four_12 w4035 4 (by decide) t_2395 (v := .int (Int32.ofInt 2)) rfl ?_
  refine x_iload_n (M := M_X12_four) dX12_four_15 rfl ?_
  refine x_iload_n (M := M_X12_four) dX12_four_16 rfl ?_
  refine x_ishr (M := M_X12_four) dX12_four_17 ?_
  refine x_i2b (M := M_X12_four) dX12_four_18 ?_
  have o4036 := (f4034 278 _ (by decide) w4029)
  refine y_bast (M := M_X12_four) (k := 2) dX12_four_19 o4036 (vp_inD (by decide +kernel)) (by decide +kernel) (fun h4037 w4038 f4039 => ?_)
  refine x_aload_n (M := M_X12_four) dX12_four_20 rfl ?_
  refine x_dup (M := M_X12_four) dX12_four_21 rfl ?_
  have o4040 := (f4039 277 _ (by decide) w4035)
  refine x_getf (M := M_X12_four) (ci := 15) (C := RX12) (T := TX12) (N := 135) (ty := tyX12) cl15 dX12_four_22 o4040 4 (by decide) t_2395 (v := .int (Int32.ofInt 2)) rfl ?_
  refine x_iconst (M := M_X12_four) dX12_four_25 ?_
  refine x_iadd (M := M_X12_four) dX12_four_26 ?_
  refine x_top (M := M_X12_four) (y := (Int32.ofInt 3)) (by decide +kernel) ?_
  refine y_put (M := M_X12_four) (ci := 15) (C := RX12) (T := TX12) (N := 135) (ty := tyX12) cl15 dX12_four_27 o4040 4 (by decide) t_2395 (Or.inl rfl) (Nat.le_of_ble_eq_true rfl) rfl (fun h4041 w4042 f4043 => ?_)
  have w4044 : ob h4041 277 = some (.inr (15, (((RB dg).set 0 (.int (Int32.ofInt 0))).set 4 (.int (Int32.ofInt 3))))) := by rw [w4042, List.set_set]
  refine x_iinc (M := M_X12_four) dX12_four_30 rfl (Nat.le_of_ble_eq_true rfl) rfl ?_
  refine x_lvs (M := M_X12_four) (lv' := [some (.ref 277), some (.int a0), some (.int (Int32.ofInt 0))]) (by rw [(by decide +kernel : (Int32.ofInt 8) + Int32.ofInt (-8) = (Int32.ofInt 0))] <;> rfl) ?_
  refine x_goto (M := M_X12_four) (tgt := 3) dX12_four_33 (by decide) ?_
  refine x_iload_n (M := M_X12_four) dX12_four_3 rfl ?_
  refine x_if_lt (M := M_X12_four) (tgt := 36) dX12_four_4 (by decide) (fun q => absurd q (by decide +kernel)) (fun _ => ?_)
  refine x_aload_n (M := M_X12_four) dX12_four_7 rfl ?_
  refine x_getf (M := M_X12_four) (ci := 15) (C := RX12) (T := TX12) (N := 135) (ty := tyX12) cl15 dX12_four_8 w4044 3 (by decide) t_2394 (v := .ref 278) rfl ?_
  refine x_aload_n (M := M_X12_four) dX12_four_11 rfl ?_
  refine x_getf (M := M_X12_four) (ci := 15) (C := RX12) (T := TX12) (N := 135) (ty := tyX12) cl15 dX12_four_12 w4044 4 (by decide) t_2395 (v := .int (Int32.ofInt 3)) rfl ?_
  refine x_iload_n (M := M_X12_four) dX12_four_15 rfl ?_
  refine x_iload_n (M := M_X12_four) dX12_four_16 rfl ?_
  refine x_ishr (M := M_X12_four) dX12_four_17 ?_
  refine x_i2b (M := M_X12_four) dX12_four_18 ?_
  have o4045 := (f4043 278 _ (by decide) w4038)
  refine y_bast (M := M_X12_four) (k := 3) dX12_four_19 o4045 (vp_inD (by decide +kernel)) (by decide +kernel) (fun h4046 w4047 f4048 => ?_)
  refine x_aload_n (M := M_X12_four) dX12_four_20 rfl ?_
  refine x_dup (M := M_X12_four) dX12_four_21 rfl ?_
  have o4049 := (f4048 277 _ (by decide) w4044)
  refine x_getf (M := M_X12_four) (ci := 15) (C := RX12) (T := TX12) (N := 135) (ty := tyX12) cl15 dX12_four_22 o4049 4 (by decide) t_2395 (v := .int (Int32.ofInt 3)) rfl ?_
  refine x_iconst (M := M_X12_four) dX12_four_25 ?_
  refine x_iadd (M := M_X12_four) dX12_four_26 ?_
  refine x_top (M := M_X12_four) (y := (Int32.ofInt 4)) (by decide +kernel) ?_
  refine y_put (M := M_X12_four) (ci := 15) (C := RX12) (T := TX12) (N := 135) (ty := tyX12) cl15 dX12_four_27 o4049 4 (by decide) t_2395 (Or.inl rfl) (Nat.le_of_ble_eq_true rfl) rfl (fun h4050 w4051 f4052 => ?_)
  have w4053 : ob h4050 277 = some (.inr (15, (((RB dg).set 0 (.int (Int32.ofInt 0))).set 4 (.int (Int32.ofInt 4))))) := by rw [w4051, List.set_set]
  refine x_iinc (M := M_X12_four) dX12_four_30 rfl (Nat.le_of_ble_eq_true rfl) rfl ?_
  refine x_lvs (M := M_X12_four) (lv' := [some (.ref 277), some (.int a0), some (.int (Int32.ofInt (-8)))]) (by rw [(by decide +kernel : (Int32.ofInt 0) + Int32.ofInt (-8) = (Int32.ofInt (-8)))] <;> rfl) ?_
  refine x_goto (M := M_X12_four) (tgt := 3) dX12_four_33 (by decide) ?_
  refine x_iload_n (M := M_X12_four) dX12_four_3 rfl ?_
  refine x_if_lt (M := M_X12_four) (tgt := 36) dX12_four_4 (by decide) (fun _ => ?_) (fun q => absurd q (by decide +kernel))
  have o4054 := (f4052 278 _ (by decide) w4047)
  exact x_vret (M := M_X12_four) dX12_four_36 rfl ⟨rfl, (fr_tr f4052 (by decide) (fr_tr f4048 (by decide) (fr_tr f4043 (by decide) (fr_tr f4039 (by decide) (fr_tr f4034 (by decide) (fr_tr f4030 (by decide) (fr_tr f4026 (by decide) (fr_tr f4022 (by decide) fr_rf)))))))), ⟨o4054, w4053, trivial⟩⟩ (Nat.le_of_ble_eq_true rfl) (Nat.le_of_ble_eq_true rfl)
set_option maxRecDepth 10000 in
theorem q4101 {l : Launch} {E : EE} (hl : l.stackTraces = false) {h : HP} {a0 : Int32} {a1 : Int32} {dg : Int32} (o4063 : ob h 277 = some (.inr (15, (((RB dg).set 0 (.int (Int32.ofInt 0))).set 4 (.int (Int32.ofInt 4)))))) (o4064 : ob h 278 = some (.inl (2, 65536, .inl (upd (upd (upd (upd (fun _ => 0) 0 (vp_nar .byte ((a0 >>> ((Int32.ofInt 24) &&& 31)).toInt8.toInt32))) 1 (vp_nar .byte ((a0 >>> ((Int32.ofInt 16) &&& 31)).toInt8.toInt32))) 2 (vp_nar .byte ((a0 >>> ((Int32.ofInt 8) &&& 31)).toInt8.toInt32))) 3 (vp_nar .byte ((a0 >>> ((Int32.ofInt 0) &&& 31)).toInt8.toInt32)))))) : en_C l E M_X12_four 0 0 0 [.ref 277, .int a1] h (pF none [278, 277] h (fun h' => ob h' 278 = some (.inl (2, 65536, .inl (upd (upd (upd (upd (upd (upd (upd (upd (fun _ => 0) 0 (vp_nar .byte ((a0 >>> ((Int32.ofInt 24) &&& 31)).toInt8.toInt32))) 1 (vp_nar .byte ((a0 >>> ((Int32.ofInt 16) &&& 31)).toInt8.toInt32))) 2 (vp_nar .byte ((a0 >>> ((Int32.ofInt 8) &&& 31)).toInt8.toInt32))) 3 (vp_nar .byte ((a0 >>> ((Int32.ofInt 0) &&& 31)).toInt8.toInt32))) 4 (vp_nar .byte ((a1 >>> ((Int32.ofInt 24) &&& 31)).toInt8.toInt32))) 5 (vp_nar .byte ((a1 >>> ((Int32.ofInt 16) &&& 31)).toInt8.toInt32))) 6 (vp_nar .byte ((a1 >>> ((Int32.ofInt 8) &&& 31)).toInt8.toInt32))) 7 (vp_nar .byte ((a1 >>> ((Int32.ofInt 0) &&& 31)).toInt8.toInt32))))) ∧ ob h' 277 = some (.inr (15, (((RB dg).set 0 (.int (Int32.ofInt 0))).set 4 (.int (Int32.ofInt 8))))) ∧ True)) := by
  refine en_mk m_X12_four rfl hl (Nat.le_of_ble_eq_true rfl) ?_
  refine x_bipush (M := M_X12_four) dX12_four_0 ?_
  refine x_top (M := M_X12_four) (y := (Int32.ofInt 24)) (by decide +kernel) ?_
  refine x_istore_n (M := M_X12_four) dX12_four_2 (Nat.le_of_ble_eq_true rfl) rfl ?_
  refine x_iload_n (M := M_X12_four) dX12_four_3 rfl ?_
  refine x_if_lt (M := M_X12_four) (tgt := 36) dX12_four_4 (by decide) (fun q => absurd q (by decide +kernel)) (fun _ => ?_)
  refine x_aload_n (M := M_X12_four) dX12_four_7 rfl ?_
  refine x_getf (M := M_X12_four) (ci := 15) (C := RX12) (T := TX12) (N := 135) (ty := tyX12) cl15 dX12_four_8 o4063 3 (by decide) t_2394 (v := .ref 278) rfl ?_
  refine x_aload_n (M := M_X12_four) dX12_four_11 rfl ?_
  refine x_getf (M := M_X12_four) (ci := 15) (C := RX12) (T := TX12) (N := 135) (ty := tyX12) cl15 dX12_four_12 o4063 4 (by decide) t_2395 (v := .int (Int32.ofInt 4)) rfl ?_
  refine x_iload_n (M := M_X12_four) dX12_four_15 rfl ?_
  refine x_iload_n (M := M_X12_four) dX12_four_16 rfl ?_
  refine x_ishr (M := M_X12_four) dX12_four_17 ?_
  refine x_i2b (M := M_X12_four) dX12_four_18 ?_
  refine y_bast (M := M_X12_four) (k := 4) dX12_four_19 o4064 (vp_inD (by decide +kernel)) (by decide +kernel) (fun h4065 w4066 f4067 => ?_)
  refine x_aload_n (M := M_X12_four) dX12_four_20 rfl ?_
  refine x_dup (M := M_X12_four) dX12_four_21 rfl ?_
  have o4068 := (f4067 277 _ (by decide) o4063)
  refine x_getf (M := M_X12_four) (ci := 15) (C := RX12) (T := TX12) (N := 135) (ty := tyX12) cl15 dX12_four_22 o4068 4 (by decide) t_2395 (v := .int (Int32.ofInt 4)) rfl ?_
  refine x_iconst (M := M_X12_four) dX12_four_25 ?_
  refine x_iadd (M := M_X12_four) dX12_four_26 ?_
  refine x_top (M := M_X12_four) (y := (Int32.ofInt 5)) (by decide +kernel) ?_
  refine y_put (M := M_X12_four) (ci := 15) (C := RX12) (T := TX12) (N := 135) (ty := tyX12) cl15 dX12_four_27 o4068 4 (by decide) t_2395 (Or.inl rfl) (Nat.le_of_ble_eq_true rfl) rfl (fun h4069 w4070 f4071 => ?_)
  have w4072 : ob h4069 277 = some (.inr (15, (((RB dg).set 0 (.int (Int32.ofInt 0))).set 4 (.int (Int32.ofInt 5))))) := by rw [w4070, List.set_set]
  refine x_iinc (M := M_X12_four) dX12_four_30 rfl (Nat.le_of_ble_eq_true rfl) rfl ?_
  refine x_lvs (M := M_X12_four) (lv' := [some (.ref 277), some (.int a1), some (.int (Int32.ofInt 16))]) (by rw [(by decide +kernel : (Int32.ofInt 24) + Int32.ofInt (-8) = (Int32.ofInt 16))] <;> rfl) ?_
  refine x_goto (M := M_X12_four) (tgt := 3) dX12_four_33 (by decide) ?_
  refine x_iload_n (M := M_X12_four) dX12_four_3 rfl ?_
  refine x_if_lt (M := M_X12_four) (tgt := 36) dX12_four_4 (by decide) (fun q => absurd q (by decide +kernel)) (fun _ => ?_)
  refine x_aload_n (M := M_X12_four) dX12_four_7 rfl ?_
  refine x_getf (M := M_X12_four) (ci := 15) (C := RX12) (T := TX12) (N := 135) (ty := tyX12) cl15 dX12_four_8 w4072 3 (by decide) t_2394 (v := .ref 278) rfl ?_
  refine x_aload_n (M := M_X12_four) dX12_four_11 rfl ?_
  refine x_getf (M := M_X12_four) (ci := 15) (C := RX12) (T := TX12) (N := 135) (ty := tyX12) cl15 dX12_four_12 w4072 4 (by decide) t_2395 (v := .int (Int32.ofInt 5)) rfl ?_
  refine x_iload_n (M := M_X12_four) dX12_four_15 rfl ?_
  refine x_iload_n (M := M_X12_four) dX12_four_16 rfl ?_
  refine x_ishr (M := M_X12_four) dX12_four_17 ?_
  refine x_i2b (M := M_X12_four) dX12_four_18 ?_
  have o4073 := (f4071 278 _ (by decide) w4066)
  refine y_bast (M := M_X12_four) (k := 5) dX12_four_19 o4073 (vp_inD (by decide +kernel)) (by decide +kernel) (fun h4074 w4075 f4076 => ?_)
  refine x_aload_n (M := M_X12_four) dX12_four_20 rfl ?_
  refine x_dup (M := M_X12_four) dX12_four_21 rfl ?_
  have o4077 := (f4076 277 _ (by decide) w4072)
  refine x_getf (M := M_X12_four) (ci := 15) (C := RX12) (T := TX12) (N := 135) (ty := tyX12) cl15 dX12_four_22 o4077 4 (by decide) t_2395 (v := .int (Int32.ofInt 5)) rfl ?_
  refine x_iconst (M := M_X12_four) dX12_four_25 ?_
  refine x_iadd (M := M_X12_four) dX12_four_26 ?_
  refine x_top (M := M_X12_four) (y := (Int32.ofInt 6)) (by decide +kernel) ?_
  refine y_put (M := M_X12_four) (ci := 15) (C := RX12) (T := TX12) (N := 135) (ty := tyX12) cl15 dX12_four_27 o4077 4 (by decide) t_2395 (Or.inl rfl) (Nat.le_of_ble_eq_true rfl) rfl (fun h4078 w4079 f4080 => ?_)
  have w4081 : ob h4078 277 = some (.inr (15, (((RB dg).set 0 (.int (Int32.ofInt 0))).set 4 (.int (Int32.ofInt 6))))) := by rw [w4079, List.set_set]
  refine x_iinc (M := M_X12_four) dX12_four_30 rfl (Nat.le_of_ble_eq_true rfl) rfl ?_
  refine x_lvs (M := M_X12_four) (lv' := [some (.ref 277), some (.int a1), some (.int (Int32.ofInt 8))]) (by rw [(by decide +kernel : (Int32.ofInt 16) + Int32.ofInt (-8) = (Int32.ofInt 8))] <;> rfl) ?_
  refine x_goto (M := M_X12_four) (tgt := 3) dX12_four_33 (by decide) ?_
  refine x_iload_n (M := M_X12_four) dX12_four_3 rfl ?_
  refine x_if_lt (M := M_X12_four) (tgt := 36) dX12_four_4 (by decide) (fun q => absurd q (by decide +kernel)) (fun _ => ?_)
  refine x_aload_n (M := M_X12_four) dX12_four_7 rfl ?_
  refine x_getf (M := M_X12_four) (ci := 15) (C := RX12) (T := TX12) (N := 135) (ty := tyX12) cl15 dX12_four_8 w4081 3 (by decide) t_2394 (v := .ref 278) rfl ?_
  refine x_aload_n (M := M_X12_four) dX12_four_11 rfl ?_
  refine x_getf (M := M_X12_four) (ci := 15) (C := RX12) (T := TX12) (N := 135) (ty := tyX12) cl15 dX12_four_12 w4081 4 (by decide) t_2395 (v := .int (Int32.ofInt 6)) rfl ?_
  refine x_iload_n (M := M_X12_four) dX12_four_15 rfl ?_
  refine x_iload_n (M := M_X12_four) dX12_four_16 rfl ?_
  refine x_ishr (M := M_X12_four) dX12_four_17 ?_
  refine x_i2b (M := M_X12_four) dX12_four_18 ?_
  have o4082 := (f4080 278 _ (by decide) w4075)
  refine y_bast (M := M_X12_four) (k := 6) dX12_four_19 o4082 (vp_inD (by decide +kernel)) (by decide +kernel) (fun h4083 w4084 f4085 => ?_)
  refine x_aload_n (M := M_X12_four) dX12_four_20 rfl ?_
  refine x_dup (M := M_X12_four) dX12_four_21 rfl ?_
  have o4086 := (f4085 277 _ (by decide) w4081)
  refine x_getf (M := M_X12_four) (ci := 15) (C := RX12) (T := TX12) (N := 135) (ty := tyX12) cl15 dX12_four_22 o4086 4 (by decide) t_2395 (v := .int (Int32.ofInt 6)) rfl ?_
  refine x_iconst (M := M_X12_four) dX12_four_25 ?_
  refine x_iadd (M := M_X12_four) dX12_four_26 ?_
  refine x_top (M := M_X12_four) (y := (Int32.ofInt 7)) (by decide +kernel) ?_
  refine y_put (M := M_X12_four) (ci := 15) (C := RX12) (T := TX12) (N := 135) (ty := tyX12) cl15 dX12_four_27 o4086 4 (by decide) t_2395 (Or.inl rfl) (Nat.le_of_ble_eq_true rfl) rfl (fun h4087 w4088 f4089 => ?_)
  have w4090 : ob h4087 277 = some (.inr (15, (((RB dg).set 0 (.int (Int32.ofInt 0))).set 4 (.int (Int32.ofInt 7))))) := by rw [w4088, List.set_set]
  refine x_iinc (M := M_X12_four) dX12_four_30 rfl (Nat.le_of_ble_eq_true rfl) rfl ?_
  refine x_lvs (M := M_X12_four) (lv' := [some (.ref 277), some (.int a1), some (.int (Int32.ofInt 0))]) (by rw [(by decide +kernel : (Int32.ofInt 8) + Int32.ofInt (-8) = (Int32.ofInt 0))] <;> rfl) ?_
  refine x_goto (M := M_X12_four) (tgt := 3) dX12_four_33 (by decide) ?_
  refine x_iload_n (M := M_X12_four) dX12_four_3 rfl ?_
  refine x_if_lt (M := M_X12_four) (tgt := 36) dX12_four_4 (by decide) (fun q => absurd q (by decide +kernel)) (fun _ => ?_)
  refine x_aload_n (M := M_X12_four) dX12_four_7 rfl ?_
  refine x_getf (M := M_X12_four) (ci := 15) (C := RX12) (T := TX12) (N := 135) (ty := tyX12) cl15 dX12_four_8 w4090 3 (by decide) t_2394 (v := .ref 278) rfl ?_
  refine x_aload_n (M := M_X12_four) dX12_four_11 rfl ?_
  refine x_getf (M := M_X12_four) (ci := 15) (C := RX12) (T := TX12) (N := 135) (ty := tyX12) cl15 dX12_four_12 w4090 4 (by decide) t_2395 (v := .int (Int32.ofInt 7)) rfl ?_
  refine x_iload_n (M := M_X12_four) dX12_four_15 rfl ?_
  refine x_iload_n (M := M_X12_four) dX12_four_16 rfl ?_
  refine x_ishr (M := M_X12_four) dX12_four_17 ?_
  refine x_i2b (M := M_X12_four) dX12_four_18 ?_
  have o4091 := (f4089 278 _ (by decide) w4084)
  refine y_bast (M := M_X12_four) (k := 7) dX12_four_19 o4091 (vp_inD (by decide +kernel)) (by decide +kernel) (fun h4092 w4093 f4094 => ?_)
  refine x_aload_n (M := M_X12_four) dX12_four_20 rfl ?_
  refine x_dup (M := M_X12_four) dX12_four_21 rfl ?_
  have o4095 := (f4094 277 _ (by decide) w4090)
  refine x_getf (M := M_X12_four) (ci := 15) (C := RX12) (T := TX12) (N := 135) (ty := tyX12) cl15 dX12_four_22 o4095 4 (by decide) t_2395 (v := .int (Int32.ofInt 7)) rfl ?_
  refine x_iconst (M := M_X12_four) dX12_four_25 ?_
  refine x_iadd (M := M_X12_four) dX12_four_26 ?_
  refine x_top (M := M_X12_four) (y := (Int32.ofInt 8)) (by decide +kernel) ?_
  refine y_put (M := M_X12_four) (ci := 15) (C := RX12) (T := TX12) (N := 135) (ty := tyX12) cl15 dX12_four_27 o4095 4 (by decide) t_2395 (Or.inl rfl) (Nat.le_of_ble_eq_true rfl) rfl (fun h4096 w4097 f4098 => ?_)
  have w4099 : ob h4096 277 = some (.inr (15, (((RB dg).set 0 (.int (Int32.ofInt 0))).set 4 (.int (Int32.ofInt 8))))) := by rw [w4097, List.set_set]
  refine x_iinc (M := M_X12_four) dX12_four_30 rfl (Nat.le_of_ble_eq_true rfl) rfl ?_
  refine x_lvs (M := M_X12_four) (lv' := [some (.ref 277), some (.int a1), some (.int (Int32.ofInt (-8)))]) (by rw [(by decide +kernel : (Int32.ofInt 0) + Int32.ofInt (-8) = (Int32.ofInt (-8)))] <;> rfl) ?_
  refine x_goto (M := M_X12_four) (tgt := 3) dX12_four_33 (by decide) ?_
  refine x_iload_n (M := M_X12_four) dX12_four_3 rfl ?_
  refine x_if_lt (M := M_X12_four) (tgt := 36) dX12_four_4 (by decide) (fun _ => ?_) (fun q => absurd q (by decide +kernel))
  have o4100 := (f4098 278 _ (by decide) w4093)
  exact x_vret (M := M_X12_four) dX12_four_36 rfl ⟨rfl, (fr_tr f4098 (by decide) (fr_tr f4094 (by decide) (fr_tr f4089 (by decide) (fr_tr f4085 (by decide) (fr_tr f4080 (by decide) (fr_tr f4076 (by decide) (fr_tr f4071 (by decide) (fr_tr f4067 (by decide) fr_rf)))))))), ⟨o4100, w4099, trivial⟩⟩ (Nat.le_of_ble_eq_true rfl) (Nat.le_of_ble_eq_true rfl)
set_option maxRecDepth 10000 in
theorem q4145 {l : Launch} {E : EE} (hl : l.stackTraces = false) {h : HP} {a0 : Int32} {a1 : Int32} {a2 : Int32} {dg : Int32} (o4107 : ob h 277 = some (.inr (15, (((RB dg).set 0 (.int (Int32.ofInt 0))).set 4 (.int (Int32.ofInt 8)))))) (o4108 : ob h 278 = some (.inl (2, 65536, .inl (upd (upd (upd (upd (upd (upd (upd (upd (fun _ => 0) 0 (vp_nar .byte ((a0 >>> ((Int32.ofInt 24) &&& 31)).toInt8.toInt32))) 1 (vp_nar .byte ((a0 >>> ((Int32.ofInt 16) &&& 31)).toInt8.toInt32))) 2 (vp_nar .byte ((a0 >>> ((Int32.ofInt 8) &&& 31)).toInt8.toInt32))) 3 (vp_nar .byte ((a0 >>> ((Int32.ofInt 0) &&& 31)).toInt8.toInt32))) 4 (vp_nar .byte ((a1 >>> ((Int32.ofInt 24) &&& 31)).toInt8.toInt32))) 5 (vp_nar .byte ((a1 >>> ((Int32.ofInt 16) &&& 31)).toInt8.toInt32))) 6 (vp_nar .byte ((a1 >>> ((Int32.ofInt 8) &&& 31)).toInt8.toInt32))) 7 (vp_nar .byte ((a1 >>> ((Int32.ofInt 0) &&& 31)).toInt8.toInt32)))))) : en_C l E M_X12_four 0 0 0 [.ref 277, .int a2] h (pF none [278, 277] h (fun h' => ob h' 278 = some (.inl (2, 65536, .inl (upd (upd (upd (upd (upd (upd (upd (upd (upd (upd (upd (upd (fun _ => 0) 0 (vp_nar .byte ((a0 >>> ((Int32.ofInt 24) &&& 31)).toInt8.toInt32))) 1 (vp_nar .byte ((a0 >>> ((Int32.ofInt 16) &&& 31)).toInt8.toInt32))) 2 (vp_nar .byte ((a0 >>> ((Int32.ofInt 8) &&& 31)).toInt8.toInt32))) 3 (vp_nar .byte ((a0 >>> ((Int32.ofInt 0) &&& 31)).toInt8.toInt32))) 4 (vp_nar .byte ((a1 >>> ((Int32.ofInt 24) &&& 31)).toInt8.toInt32))) 5 (vp_nar .byte ((a1 >>> ((Int32.ofInt 16) &&& 31)).toInt8.toInt32))) 6 (vp_nar .byte ((a1 >>> ((Int32.ofInt 8) &&& 31)).toInt8.toInt32))) 7 (vp_nar .byte ((a1 >>> ((Int32.ofInt 0) &&& 31)).toInt8.toInt32))) 8 (vp_nar .byte ((a2 >>> ((Int32.ofInt 24) &&& 31)).toInt8.toInt32))) 9 (vp_nar .byte ((a2 >>> ((Int32.ofInt 16) &&& 31)).toInt8.toInt32))) 10 (vp_nar .byte ((a2 >>> ((Int32.ofInt 8) &&& 31)).toInt8.toInt32))) 11 (vp_nar .byte ((a2 >>> ((Int32.ofInt 0) &&& 31)).toInt8.toInt32))))) ∧ ob h' 277 = some (.inr (15, (((RB dg).set 0 (.int (Int32.ofInt 0))).set 4 (.int (Int32.ofInt 12))))) ∧ True)) := by
  refine en_mk m_X12_four rfl hl (Nat.le_of_ble_eq_true rfl) ?_
  refine x_bipush (M := M_X12_four) dX12_four_0 ?_
  refine x_top (M := M_X12_four) (y := (Int32.ofInt 24)) (by decide +kernel) ?_
  refine x_istore_n (M := M_X12_four) dX12_four_2 (Nat.le_of_ble_eq_true rfl) rfl ?_
  refine x_iload_n (M := M_X12_four) dX12_four_3 rfl ?_
  refine x_if_lt (M := M_X12_four) (tgt := 36) dX12_four_4 (by decide) (fun q => absurd q (by decide +kernel)) (fun _ => ?_)
  refine x_aload_n (M := M_X12_four) dX12_four_7 rfl ?_
  refine x_getf (M := M_X12_four) (ci := 15) (C := RX12) (T := TX12) (N := 135) (ty := tyX12) cl15 dX12_four_8 o4107 3 (by decide) t_2394 (v := .ref 278) rfl ?_
  refine x_aload_n (M := M_X12_four) dX12_four_11 rfl ?_
  refine x_getf (M := M_X12_four) (ci := 15) (C := RX12) (T := TX12) (N := 135) (ty := tyX12) cl15 dX12_four_12 o4107 4 (by decide) t_2395 (v := .int (Int32.ofInt 8)) rfl ?_
  refine x_iload_n (M := M_X12_four) dX12_four_15 rfl ?_
  refine x_iload_n (M := M_X12_four) dX12_four_16 rfl ?_
  refine x_ishr (M := M_X12_four) dX12_four_17 ?_
  refine x_i2b (M := M_X12_four) dX12_four_18 ?_
  refine y_bast (M := M_X12_four) (k := 8) dX12_four_19 o4108 (vp_inD (by decide +kernel)) (by decide +kernel) (fun h4109 w4110 f4111 => ?_)
  refine x_aload_n (M := M_X12_four) dX12_four_20 rfl ?_
  refine x_dup (M := M_X12_four) dX12_four_21 rfl ?_
  have o4112 := (f4111 277 _ (by decide) o4107)
  refine x_getf (M := M_X12_four) (ci := 15) (C := RX12) (T := TX12) (N := 135) (ty := tyX12) cl15 dX12_four_22 o4112 4 (by decide) t_2395 (v := .int (Int32.ofInt 8)) rfl ?_
  refine x_iconst (M := M_X12_four) dX12_four_25 ?_
  refine x_iadd (M := M_X12_four) dX12_four_26 ?_
  refine x_top (M := M_X12_four) (y := (Int32.ofInt 9)) (by decide +kernel) ?_
  refine y_put (M := M_X12_four) (ci := 15) (C := RX12) (T := TX12) (N := 135) (ty := tyX12) cl15 dX12_four_27 o4112 4 (by decide) t_2395 (Or.inl rfl) (Nat.le_of_ble_eq_true rfl) rfl (fun h4113 w4114 f4115 => ?_)
  have w4116 : ob h4113 277 = some (.inr (15, (((RB dg).set 0 (.int (Int32.ofInt 0))).set 4 (.int (Int32.ofInt 9))))) := by rw [w4114, List.set_set]
  refine x_iinc (M := M_X12_four) dX12_four_30 rfl (Nat.le_of_ble_eq_true rfl) rfl ?_
  refine x_lvs (M := M_X12_four) (lv' := [some (.ref 277), some (.int a2), some (.int (Int32.ofInt 16))]) (by rw [(by decide +kernel : (Int32.ofInt 24) + Int32.ofInt (-8) = (Int32.ofInt 16))] <;> rfl) ?_
  refine x_goto (M := M_X12_four) (tgt := 3) dX12_four_33 (by decide) ?_
  refine x_iload_n (M := M_X12_four) dX12_four_3 rfl ?_
  refine x_if_lt (M := M_X12_four) (tgt := 36) dX12_four_4 (by decide) (fun q => absurd q (by decide +kernel)) (fun _ => ?_)
  refine x_aload_n (M := M_X12_four) dX12_four_7 rfl ?_
  refine x_getf (M := M_X12_four) (ci := 15) (C := RX12) (T := TX12) (N := 135) (ty := tyX12) cl15 dX12_four_8 w4116 3 (by decide) t_2394 (v := .ref 278) rfl ?_
  refine x_aload_n (M := M_X12_four) dX12_four_11 rfl ?_
  refine x_getf (M := M_X12_four) (ci := 15) (C := RX12) (T := TX12) (N := 135) (ty := tyX12) cl15 dX12_four_12 w4116 4 (by decide) t_2395 (v := .int (Int32.ofInt 9)) rfl ?_
  refine x_iload_n (M := M_X12_four) dX12_four_15 rfl ?_
  refine x_iload_n (M := M_X12_four) dX12_four_16 rfl ?_
  refine x_ishr (M := M_X12_four) dX12_four_17 ?_
  refine x_i2b (M := M_X12_four) dX12_four_18 ?_
  have o4117 := (f4115 278 _ (by decide) w4110)
  refine y_bast (M := M_X12_four) (k := 9) dX12_four_19 o4117 (vp_inD (by decide +kernel)) (by decide +kernel) (fun h4118 w4119 f4120 => ?_)
  refine x_aload_n (M := M_X12_four) dX12_four_20 rfl ?_
  refine x_dup (M := M_X12_four) dX12_four_21 rfl ?_
  have o4121 := (f4120 277 _ (by decide) w4116)
  refine x_getf (M := M_X12_four) (ci := 15) (C := RX12) (T := TX12) (N := 135) (ty := tyX12) cl15 dX12_four_22 o4121 4 (by decide) t_2395 (v := .int (Int32.ofInt 9)) rfl ?_
  refine x_iconst (M := M_X12_four) dX12_four_25 ?_
  refine x_iadd (M := M_X12_four) dX12_four_26 ?_
  refine x_top (M := M_X12_four) (y := (Int32.ofInt 10)) (by decide +kernel) ?_
  refine y_put (M := M_X12_four) (ci := 15) (C := RX12) (T := TX12) (N := 135) (ty := tyX12) cl15 dX12_four_27 o4121 4 (by decide) t_2395 (Or.inl rfl) (Nat.le_of_ble_eq_true rfl) rfl (fun h4122 w4123 f4124 => ?_)
  have w4125 : ob h4122 277 = some (.inr (15, (((RB dg).set 0 (.int (Int32.ofInt 0))).set 4 (.int (Int32.ofInt 10))))) := by rw [w4123, List.set_set]
  refine x_iinc (M := M_X12_four) dX12_four_30 rfl (Nat.le_of_ble_eq_true rfl) rfl ?_
  refine x_lvs (M := M_X12_four) (lv' := [some (.ref 277), some (.int a2), some (.int (Int32.ofInt 8))]) (by rw [(by decide +kernel : (Int32.ofInt 16) + Int32.ofInt (-8) = (Int32.ofInt 8))] <;> rfl) ?_
  refine x_goto (M := M_X12_four) (tgt := 3) dX12_four_33 (by decide) ?_
  refine x_iload_n (M := M_X12_four) dX12_four_3 rfl ?_
  refine x_if_lt (M := M_X12_four) (tgt := 36) dX12_four_4 (by decide) (fun q => absurd q (by decide +kernel)) (fun _ => ?_)
  refine x_aload_n (M := M_X12_four) dX12_four_7 rfl ?_
  refine x_getf (M := M_X12_four) (ci := 15) (C := RX12) (T := TX12) (N := 135) (ty := tyX12) cl15 dX12_four_8 w4125 3 (by decide) t_2394 (v := .ref 278) rfl ?_
  refine x_aload_n (M := M_X12_four) dX12_four_11 rfl ?_
  refine x_getf (M := M_X12_four) (ci := 15) (C := RX12) (T := TX12) (N := 135) (ty := tyX12) cl15 dX12_four_12 w4125 4 (by decide) t_2395 (v := .int (Int32.ofInt 10)) rfl ?_
  refine x_iload_n (M := M_X12_four) dX12_four_15 rfl ?_
  refine x_iload_n (M := M_X12_four) dX12_four_16 rfl ?_
  refine x_ishr (M := M_X12_four) dX12_four_17 ?_
  refine x_i2b (M := M_X12_four) dX12_four_18 ?_
  have o4126 := (f4124 278 _ (by decide) w4119)
  refine y_bast (M := M_X12_four) (k := 10) dX12_four_19 o4126 (vp_inD (by decide +kernel)) (by decide +kernel) (fun h4127 w4128 f4129 => ?_)
  refine x_aload_n (M := M_X12_four) dX12_four_20 rfl ?_
  refine x_dup (M := M_X12_four) dX12_four_21 rfl ?_
  have o4130 := (f4129 277 _ (by decide) w4125)
  refine x_getf (M := M_X12_four) (ci := 15) (C := RX12) (T := TX12) (N := 135) (ty := tyX12) cl15 dX12_four_22 o4130 4 (by decide) t_2395 (v := .int (Int32.ofInt 10)) rfl ?_
  refine x_iconst (M := M_X12_four) dX12_four_25 ?_
  refine x_iadd (M := M_X12_four) dX12_four_26 ?_
  refine x_top (M := M_X12_four) (y := (Int32.ofInt 11)) (by decide +kernel) ?_
  refine y_put (M := M_X12_four) (ci := 15) (C := RX12) (T := TX12) (N := 135) (ty := tyX12) cl15 dX12_four_27 o4130 4 (by decide) t_2395 (Or.inl rfl) (Nat.le_of_ble_eq_true rfl) rfl (fun h4131 w4132 f4133 => ?_)
  have w4134 : ob h4131 277 = some (.inr (15, (((RB dg).set 0 (.int (Int32.ofInt 0))).set 4 (.int (Int32.ofInt 11))))) := by rw [w4132, List.set_set]
  refine x_iinc (M := M_X12_four) dX12_four_30 rfl (Nat.le_of_ble_eq_true rfl) rfl ?_
  refine x_lvs (M := M_X12_four) (lv' := [some (.ref 277), some (.int a2), some (.int (Int32.ofInt 0))]) (by rw [(by decide +kernel : (Int32.ofInt 8) + Int32.ofInt (-8) = (Int32.ofInt 0))] <;> rfl) ?_
  refine x_goto (M := M_X12_four) (tgt := 3) dX12_four_33 (by decide) ?_
  refine x_iload_n (M := M_X12_four) dX12_four_3 rfl ?_
  refine x_if_lt (M := M_X12_four) (tgt := 36) dX12_four_4 (by decide) (fun q => absurd q (by decide +kernel)) (fun _ => ?_)
  refine x_aload_n (M := M_X12_four) dX12_four_7 rfl ?_
  refine x_getf (M := M_X12_four) (ci := 15) (C := RX12) (T := TX12) (N := 135) (ty := tyX12) cl15 dX12_four_8 w4134 3 (by decide) t_2394 (v := .ref 278) rfl ?_
  refine x_aload_n (M := M_X12_four) dX12_four_11 rfl ?_
  refine x_getf (M := M_X12_four) (ci := 15) (C := RX12) (T := TX12) (N := 135) (ty := tyX12) cl15 dX12_four_12 w4134 4 (by decide) t_2395 (v := .int (Int32.ofInt 11)) rfl ?_
  refine x_iload_n (M := M_X12_four) dX12_four_15 rfl ?_
  refine x_iload_n (M := M_X12_four) dX12_four_16 rfl ?_
  refine x_ishr (M := M_X12_four) dX12_four_17 ?_
  refine x_i2b (M := M_X12_four) dX12_four_18 ?_
  have o4135 := (f4133 278 _ (by decide) w4128)
  refine y_bast (M := M_X12_four) (k := 11) dX12_four_19 o4135 (vp_inD (by decide +kernel)) (by decide +kernel) (fun h4136 w4137 f4138 => ?_)
  refine x_aload_n (M := M_X12_four) dX12_four_20 rfl ?_
  refine x_dup (M := M_X12_four) dX12_four_21 rfl ?_
  have o4139 := (f4138 277 _ (by decide) w4134)
  refine x_getf (M := M_X12_four) (ci := 15) (C := RX12) (T := TX12) (N := 135) (ty := tyX12) cl15 dX12_four_22 o4139 4 (by decide) t_2395 (v := .int (Int32.ofInt 11)) rfl ?_
  refine x_iconst (M := M_X12_four) dX12_four_25 ?_
  refine x_iadd (M := M_X12_four) dX12_four_26 ?_
  refine x_top (M := M_X12_four) (y := (Int32.ofInt 12)) (by decide +kernel) ?_
  refine y_put (M := M_X12_four) (ci := 15) (C := RX12) (T := TX12) (N := 135) (ty := tyX12) cl15 dX12_four_27 o4139 4 (by decide) t_2395 (Or.inl rfl) (Nat.le_of_ble_eq_true rfl) rfl (fun h4140 w4141 f4142 => ?_)
  have w4143 : ob h4140 277 = some (.inr (15, (((RB dg).set 0 (.int (Int32.ofInt 0))).set 4 (.int (Int32.ofInt 12))))) := by rw [w4141, List.set_set]
  refine x_iinc (M := M_X12_four) dX12_four_30 rfl (Nat.le_of_ble_eq_true rfl) rfl ?_
  refine x_lvs (M := M_X12_four) (lv' := [some (.ref 277), some (.int a2), some (.int (Int32.ofInt (-8)))]) (by rw [(by decide +kernel : (Int32.ofInt 0) + Int32.ofInt (-8) = (Int32.ofInt (-8)))] <;> rfl) ?_
  refine x_goto (M := M_X12_four) (tgt := 3) dX12_four_33 (by decide) ?_
  refine x_iload_n (M := M_X12_four) dX12_four_3 rfl ?_
  refine x_if_lt (M := M_X12_four) (tgt := 36) dX12_four_4 (by decide) (fun _ => ?_) (fun q => absurd q (by decide +kernel))
  have o4144 := (f4142 278 _ (by decide) w4137)
  exact x_vret (M := M_X12_four) dX12_four_36 rfl ⟨rfl, (fr_tr f4142 (by decide) (fr_tr f4138 (by decide) (fr_tr f4133 (by decide) (fr_tr f4129 (by decide) (fr_tr f4124 (by decide) (fr_tr f4120 (by decide) (fr_tr f4115 (by decide) (fr_tr f4111 (by decide) fr_rf)))))))), ⟨o4144, w4143, trivial⟩⟩ (Nat.le_of_ble_eq_true rfl) (Nat.le_of_ble_eq_true rfl)
set_option maxRecDepth 10000 in
theorem q4189 {l : Launch} {E : EE} (hl : l.stackTraces = false) {h : HP} {a0 : Int32} {a1 : Int32} {a2 : Int32} {a3 : Int32} {dg : Int32} (o4151 : ob h 277 = some (.inr (15, (((RB dg).set 0 (.int (Int32.ofInt 0))).set 4 (.int (Int32.ofInt 12)))))) (o4152 : ob h 278 = some (.inl (2, 65536, .inl (upd (upd (upd (upd (upd (upd (upd (upd (upd (upd (upd (upd (fun _ => 0) 0 (vp_nar .byte ((a0 >>> ((Int32.ofInt 24) &&& 31)).toInt8.toInt32))) 1 (vp_nar .byte ((a0 >>> ((Int32.ofInt 16) &&& 31)).toInt8.toInt32))) 2 (vp_nar .byte ((a0 >>> ((Int32.ofInt 8) &&& 31)).toInt8.toInt32))) 3 (vp_nar .byte ((a0 >>> ((Int32.ofInt 0) &&& 31)).toInt8.toInt32))) 4 (vp_nar .byte ((a1 >>> ((Int32.ofInt 24) &&& 31)).toInt8.toInt32))) 5 (vp_nar .byte ((a1 >>> ((Int32.ofInt 16) &&& 31)).toInt8.toInt32))) 6 (vp_nar .byte ((a1 >>> ((Int32.ofInt 8) &&& 31)).toInt8.toInt32))) 7 (vp_nar .byte ((a1 >>> ((Int32.ofInt 0) &&& 31)).toInt8.toInt32))) 8 (vp_nar .byte ((a2 >>> ((Int32.ofInt 24) &&& 31)).toInt8.toInt32))) 9 (vp_nar .byte ((a2 >>> ((Int32.ofInt 16) &&& 31)).toInt8.toInt32))) 10 (vp_nar .byte ((a2 >>> ((Int32.ofInt 8) &&& 31)).toInt8.toInt32))) 11 (vp_nar .byte ((a2 >>> ((Int32.ofInt 0) &&& 31)).toInt8.toInt32)))))) : en_C l E M_X12_four 0 0 0 [.ref 277, .int a3] h (pF none [278, 277] h (fun h' => ob h' 278 = some (.inl (2, 65536, .inl (upd (upd (upd (upd (upd (upd (upd (upd (upd (upd (upd (upd (upd (upd (upd (upd (fun _ => 0) 0 (vp_nar .byte ((a0 >>> ((Int32.ofInt 24) &&& 31)).toInt8.toInt32))) 1 (vp_nar .byte ((a0 >>> ((Int32.ofInt 16) &&& 31)).toInt8.toInt32))) 2 (vp_nar .byte ((a0 >>> ((Int32.ofInt 8) &&& 31)).toInt8.toInt32))) 3 (vp_nar .byte ((a0 >>> ((Int32.ofInt 0) &&& 31)).toInt8.toInt32))) 4 (vp_nar .byte ((a1 >>> ((Int32.ofInt 24) &&& 31)).toInt8.toInt32))) 5 (vp_nar .byte ((a1 >>> ((Int32.ofInt 16) &&& 31)).toInt8.toInt32))) 6 (vp_nar .byte ((a1 >>> ((Int32.ofInt 8) &&& 31)).toInt8.toInt32))) 7 (vp_nar .byte ((a1 >>> ((Int32.ofInt 0) &&& 31)).toInt8.toInt32))) 8 (vp_nar .byte ((a2 >>> ((Int32.ofInt 24) &&& 31)).toInt8.toInt32))) 9 (vp_nar .byte ((a2 >>> ((Int32.ofInt 16) &&& 31)).toInt8.toInt32))) 10 (vp_nar .byte ((a2 >>> ((Int32.ofInt 8) &&& 31)).toInt8.toInt32))) 11 (vp_nar .byte ((a2 >>> ((Int32.ofInt 0) &&& 31)).toInt8.toInt32))) 12 (vp_nar .byte ((a3 >>> ((Int32.ofInt 24) &&& 31)).toInt8.toInt32))) 13 (vp_nar .byte ((a3 >>> ((Int32.ofInt 16) &&& 31)).toInt8.toInt32))) 14 (vp_nar .byte ((a3 >>> ((Int32.ofInt 8) &&& 31)).toInt8.toInt32))) 15 (vp_nar .byte ((a3 >>> ((Int32.ofInt 0) &&& 31)).toInt8.toInt32))))) ∧ ob h' 277 = some (.inr (15, (((RB dg).set 0 (.int (Int32.ofInt 0))).set 4 (.int (Int32.ofInt 16))))) ∧ True)) := by
  refine en_mk m_X12_four rfl hl (Nat.le_of_ble_eq_true rfl) ?_
  refine x_bipush (M := M_X12_four) dX12_four_0 ?_
  refine x_top (M := M_X12_four) (y := (Int32.ofInt 24)) (by decide +kernel) ?_
  refine x_istore_n (M := M_X12_four) dX12_four_2 (Nat.le_of_ble_eq_true rfl) rfl ?_
  refine x_iload_n (M := M_X12_four) dX12_four_3 rfl ?_
  refine x_if_lt (M := M_X12_four) (tgt := 36) dX12_four_4 (by decide) (fun q => absurd q (by decide +kernel)) (fun _ => ?_)
  refine x_aload_n (M := M_X12_four) dX12_four_7 rfl ?_
  refine x_getf (M := M_X12_four) (ci := 15) (C := RX12) (T := TX12) (N := 135) (ty := tyX12) cl15 dX12_four_8 o4151 3 (by decide) t_2394 (v := .ref 278) rfl ?_
  refine x_aload_n (M := M_X12_four) dX12_four_11 rfl ?_
  refine x_getf (M := M_X12_four) (ci := 15) (C := RX12) (T := TX12) (N := 135) (ty := tyX12) cl15 dX12_four_12 o4151 4 (by decide) t_2395 (v := .int (Int32.ofInt 12)) rfl ?_
  refine x_iload_n (M := M_X12_four) dX12_four_15 rfl ?_
  refine x_iload_n (M := M_X12_four) dX12_four_16 rfl ?_
  refine x_ishr (M := M_X12_four) dX12_four_17 ?_
  refine x_i2b (M := M_X12_four) dX12_four_18 ?_
  refine y_bast (M := M_X12_four) (k := 12) dX12_four_19 o4152 (vp_inD (by decide +kernel)) (by decide +kernel) (fun h4153 w4154 f4155 => ?_)
  refine x_aload_n (M := M_X12_four) dX12_four_20 rfl ?_
  refine x_dup (M := M_X12_four) dX12_four_21 rfl ?_
  have o4156 := (f4155 277 _ (by decide) o4151)
  refine x_getf (M := M_X12_four) (ci := 15) (C := RX12) (T := TX12) (N := 135) (ty := tyX12) cl15 dX12_four_22 o4156 4 (by decide) t_2395 (v := .int (Int32.ofInt 12)) rfl ?_
  refine x_iconst (M := M_X12_four) dX12_four_25 ?_
  refine x_iadd (M := M_X12_four) dX12_four_26 ?_
  refine x_top (M := M_X12_four) (y := (Int32.ofInt 13)) (by decide +kernel) ?_
  refine y_put (M := M_X12_four) (ci := 15) (C := RX12) (T := TX12) (N := 135) (ty := tyX12) cl15 dX12_four_27 o4156 4 (by decide) t_2395 (Or.inl rfl) (Nat.le_of_ble_eq_true rfl) rfl (fun h4157 w4158 f4159 => ?_)
  have w4160 : ob h4157 277 = some (.inr (15, (((RB dg).set 0 (.int (Int32.ofInt 0))).set 4 (.int (Int32.ofInt 13))))) := by rw [w4158, List.set_set]
  refine x_iinc (M := M_X12_four) dX12_four_30 rfl (Nat.le_of_ble_eq_true rfl) rfl ?_
  refine x_lvs (M := M_X12_four) (lv' := [some (.ref 277), some (.int a3), some (.int (Int32.ofInt 16))]) (by rw [(by decide +kernel : (Int32.ofInt 24) + Int32.ofInt (-8) = (Int32.ofInt 16))] <;> rfl) ?_
  refine x_goto (M := M_X12_four) (tgt := 3) dX12_four_33 (by decide) ?_
  refine x_iload_n (M := M_X12_four) dX12_four_3 rfl ?_
  refine x_if_lt (M := M_X12_four) (tgt := 36) dX12_four_4 (by decide) (fun q => absurd q (by decide +kernel)) (fun _ => ?_)
  refine x_aload_n (M := M_X12_four) dX12_four_7 rfl ?_
  refine x_getf (M := M_X12_four) (ci := 15) (C := RX12) (T := TX12) (N := 135) (ty := tyX12) cl15 dX12_four_8 w4160 3 (by decide) t_2394 (v := .ref 278) rfl ?_
  refine x_aload_n (M := M_X12_four) dX12_four_11 rfl ?_
  refine x_getf (M := M_X12_four) (ci := 15) (C := RX12) (T := TX12) (N := 135) (ty := tyX12) cl15 dX12_four_12 w4160 4 (by decide) t_2395 (v := .int (Int32.ofInt 13)) rfl ?_
  refine x_iload_n (M := M_X12_four) dX12_four_15 rfl ?_
  refine x_iload_n (M := M_X12_four) dX12_four_16 rfl ?_
  refine x_ishr (M := M_X12_four) dX12_four_17 ?_
  refine x_i2b (M := M_X12_four) dX12_four_18 ?_
  have o4161 := (f4159 278 _ (by decide) w4154)
  refine y_bast (M := M_X12_four) (k := 13) dX12_four_19 o4161 (vp_inD (by decide +kernel)) (by decide +kernel) (fun h4162 w4163 f4164 => ?_)
  refine x_aload_n (M := M_X12_four) dX12_four_20 rfl ?_
  refine x_dup (M := M_X12_four) dX12_four_21 rfl ?_
  have o4165 := (f4164 277 _ (by decide) w4160)
  refine x_getf (M := M_X12_four) (ci := 15) (C := RX12) (T := TX12) (N := 135) (ty := tyX12) cl15 dX12_four_22 o4165 4 (by decide) t_2395 (v := .int (Int32.ofInt 13)) rfl ?_
  refine x_iconst (M := M_X12_four) dX12_four_25 ?_
  refine x_iadd (M := M_X12_four) dX12_four_26 ?_
  refine x_top (M := M_X12_four) (y := (Int32.ofInt 14)) (by decide +kernel) ?_
  refine y_put (M := M_X12_four) (ci := 15) (C := RX12) (T := TX12) (N := 135) (ty := tyX12) cl15 dX12_four_27 o4165 4 (by decide) t_2395 (Or.inl rfl) (Nat.le_of_ble_eq_true rfl) rfl (fun h4166 w4167 f4168 => ?_)
  have w4169 : ob h4166 277 = some (.inr (15, (((RB dg).set 0 (.int (Int32.ofInt 0))).set 4 (.int (Int32.ofInt 14))))) := by rw [w4167, List.set_set]
  refine x_iinc (M := M_X12_four) dX12_four_30 rfl (Nat.le_of_ble_eq_true rfl) rfl ?_
  refine x_lvs (M := M_X12_four) (lv' := [some (.ref 277), some (.int a3), some (.int (Int32.ofInt 8))]) (by rw [(by decide +kernel : (Int32.ofInt 16) + Int32.ofInt (-8) = (Int32.ofInt 8))] <;> rfl) ?_
  refine x_goto (M := M_X12_four) (tgt := 3) dX12_four_33 (by decide) ?_
  refine x_iload_n (M := M_X12_four) dX12_four_3 rfl ?_
  refine x_if_lt (M := M_X12_four) (tgt := 36) dX12_four_4 (by decide) (fun q => absurd q (by decide +kernel)) (fun _ => ?_)
  refine x_aload_n (M := M_X12_four) dX12_four_7 rfl ?_
  refine x_getf (M := M_X12_four) (ci := 15) (C := RX12) (T := TX12) (N := 135) (ty := tyX12) cl15 dX12_four_8 w4169 3 (by decide) t_2394 (v := .ref 278) rfl ?_
  refine x_aload_n (M := M_X12_four) dX12_four_11 rfl ?_
  refine x_getf (M := M_X12_four) (ci := 15) (C := RX12) (T := TX12) (N := 135) (ty := tyX12) cl15 dX12_four_12 w4169 4 (by decide) t_2395 (v := .int (Int32.ofInt 14)) rfl ?_
  refine x_iload_n (M := M_X12_four) dX12_four_15 rfl ?_
  refine x_iload_n (M := M_X12_four) dX12_four_16 rfl ?_
  refine x_ishr (M := M_X12_four) dX12_four_17 ?_
  refine x_i2b (M := M_X12_four) dX12_four_18 ?_
  have o4170 := (f4168 278 _ (by decide) w4163)
  refine y_bast (M := M_X12_four) (k := 14) dX12_four_19 o4170 (vp_inD (by decide +kernel)) (by decide +kernel) (fun h4171 w4172 f4173 => ?_)
  refine x_aload_n (M := M_X12_four) dX12_four_20 rfl ?_
  refine x_dup (M := M_X12_four) dX12_four_21 rfl ?_
  have o4174 := (f4173 277 _ (by decide) w4169)
  refine x_getf (M := M_X12_four) (ci := 15) (C := RX12) (T := TX12) (N := 135) (ty := tyX12) cl15 dX12_four_22 o4174 4 (by decide) t_2395 (v := .int (Int32.ofInt 14)) rfl ?_
  refine x_iconst (M := M_X12_four) dX12_four_25 ?_
  refine x_iadd (M := M_X12_four) dX12_four_26 ?_
  refine x_top (M := M_X12_four) (y := (Int32.ofInt 15)) (by decide +kernel) ?_
  refine y_put (M := M_X12_four) (ci := 15) (C := RX12) (T := TX12) (N := 135) (ty := tyX12) cl15 dX12_four_27 o4174 4 (by decide) t_2395 (Or.inl rfl) (Nat.le_of_ble_eq_true rfl) rfl (fun h4175 w4176 f4177 => ?_)
  have w4178 : ob h4175 277 = some (.inr (15, (((RB dg).set 0 (.int (Int32.ofInt 0))).set 4 (.int (Int32.ofInt 15))))) := by rw [w4176, List.set_set]
  refine x_iinc (M := M_X12_four) dX12_four_30 rfl (Nat.le_of_ble_eq_true rfl) rfl ?_
  refine x_lvs (M := M_X12_four) (lv' := [some (.ref 277), some (.int a3), some (.int (Int32.ofInt 0))]) (by rw [(by decide +kernel : (Int32.ofInt 8) + Int32.ofInt (-8) = (Int32.ofInt 0))] <;> rfl) ?_
  refine x_goto (M := M_X12_four) (tgt := 3) dX12_four_33 (by decide) ?_
  refine x_iload_n (M := M_X12_four) dX12_four_3 rfl ?_
  refine x_if_lt (M := M_X12_four) (tgt := 36) dX12_four_4 (by decide) (fun q => absurd q (by decide +kernel)) (fun _ => ?_)
  refine x_aload_n (M := M_X12_four) dX12_four_7 rfl ?_
  refine x_getf (M := M_X12_four) (ci := 15) (C := RX12) (T := TX12) (N := 135) (ty := tyX12) cl15 dX12_four_8 w4178 3 (by decide) t_2394 (v := .ref 278) rfl ?_
  refine x_aload_n (M := M_X12_four) dX12_four_11 rfl ?_
  refine x_getf (M := M_X12_four) (ci := 15) (C := RX12) (T := TX12) (N := 135) (ty := tyX12) cl15 dX12_four_12 w4178 4 (by decide) t_2395 (v := .int (Int32.ofInt 15)) rfl ?_
  refine x_iload_n (M := M_X12_four) dX12_four_15 rfl ?_
  refine x_iload_n (M := M_X12_four) dX12_four_16 rfl ?_
  refine x_ishr (M := M_X12_four) dX12_four_17 ?_
  refine x_i2b (M := M_X12_four) dX12_four_18 ?_
  have o4179 := (f4177 278 _ (by decide) w4172)
  refine y_bast (M := M_X12_four) (k := 15) dX12_four_19 o4179 (vp_inD (by decide +kernel)) (by decide +kernel) (fun h4180 w4181 f4182 => ?_)
  refine x_aload_n (M := M_X12_four) dX12_four_20 rfl ?_
  refine x_dup (M := M_X12_four) dX12_four_21 rfl ?_
  have o4183 := (f4182 277 _ (by decide) w4178)
  refine x_getf (M := M_X12_four) (ci := 15) (C := RX12) (T := TX12) (N := 135) (ty := tyX12) cl15 dX12_four_22 o4183 4 (by decide) t_2395 (v := .int (Int32.ofInt 15)) rfl ?_
  refine x_iconst (M := M_X12_four) dX12_four_25 ?_
  refine x_iadd (M := M_X12_four) dX12_four_26 ?_
  refine x_top (M := M_X12_four) (y := (Int32.ofInt 16)) (by decide +kernel) ?_
  refine y_put (M := M_X12_four) (ci := 15) (C := RX12) (T := TX12) (N := 135) (ty := tyX12) cl15 dX12_four_27 o4183 4 (by decide) t_2395 (Or.inl rfl) (Nat.le_of_ble_eq_true rfl) rfl (fun h4184 w4185 f4186 => ?_)
  have w4187 : ob h4184 277 = some (.inr (15, (((RB dg).set 0 (.int (Int32.ofInt 0))).set 4 (.int (Int32.ofInt 16))))) := by rw [w4185, List.set_set]
  refine x_iinc (M := M_X12_four) dX12_four_30 rfl (Nat.le_of_ble_eq_true rfl) rfl ?_
  refine x_lvs (M := M_X12_four) (lv' := [some (.ref 277), some (.int a3), some (.int (Int32.ofInt (-8)))]) (by rw [(by decide +kernel : (Int32.ofInt 0) + Int32.ofInt (-8) = (Int32.ofInt (-8)))] <;> rfl) ?_
  refine x_goto (M := M_X12_four) (tgt := 3) dX12_four_33 (by decide) ?_
  refine x_iload_n (M := M_X12_four) dX12_four_3 rfl ?_
  refine x_if_lt (M := M_X12_four) (tgt := 36) dX12_four_4 (by decide) (fun _ => ?_) (fun q => absurd q (by decide +kernel))
  have o4188 := (f4186 278 _ (by decide) w4181)
  exact x_vret (M := M_X12_four) dX12_four_36 rfl ⟨rfl, (fr_tr f4186 (by decide) (fr_tr f4182 (by decide) (fr_tr f4177 (by decide) (fr_tr f4173 (by decide) (fr_tr f4168 (by decide) (fr_tr f4164 (by decide) (fr_tr f4159 (by decide) (fr_tr f4155 (by decide) fr_rf)))))))), ⟨o4188, w4187, trivial⟩⟩ (Nat.le_of_ble_eq_true rfl) (Nat.le_of_ble_eq_true rfl)
set_option maxRecDepth 10000 in
theorem q4233 {l : Launch} {E : EE} (hl : l.stackTraces = false) {h : HP} {a0 : Int32} {a1 : Int32} {a2 : Int32} {a3 : Int32} {a4 : Int32} {dg : Int32} (o4195 : ob h 277 = some (.inr (15, (((RB dg).set 0 (.int (Int32.ofInt 0))).set 4 (.int (Int32.ofInt 16)))))) (o4196 : ob h 278 = some (.inl (2, 65536, .inl (upd (upd (upd (upd (upd (upd (upd (upd (upd (upd (upd (upd (upd (upd (upd (upd (fun _ => 0) 0 (vp_nar .byte ((a0 >>> ((Int32.ofInt 24) &&& 31)).toInt8.toInt32))) 1 (vp_nar .byte ((a0 >>> ((Int32.ofInt 16) &&& 31)).toInt8.toInt32))) 2 (vp_nar .byte ((a0 >>> ((Int32.ofInt 8) &&& 31)).toInt8.toInt32))) 3 (vp_nar .byte ((a0 >>> ((Int32.ofInt 0) &&& 31)).toInt8.toInt32))) 4 (vp_nar .byte ((a1 >>> ((Int32.ofInt 24) &&& 31)).toInt8.toInt32))) 5 (vp_nar .byte ((a1 >>> ((Int32.ofInt 16) &&& 31)).toInt8.toInt32))) 6 (vp_nar .byte ((a1 >>> ((Int32.ofInt 8) &&& 31)).toInt8.toInt32))) 7 (vp_nar .byte ((a1 >>> ((Int32.ofInt 0) &&& 31)).toInt8.toInt32))) 8 (vp_nar .byte ((a2 >>> ((Int32.ofInt 24) &&& 31)).toInt8.toInt32))) 9 (vp_nar .byte ((a2 >>> ((Int32.ofInt 16) &&& 31)).toInt8.toInt32))) 10 (vp_nar .byte ((a2 >>> ((Int32.ofInt 8) &&& 31)).toInt8.toInt32))) 11 (vp_nar .byte ((a2 >>> ((Int32.ofInt 0) &&& 31)).toInt8.toInt32))) 12 (vp_nar .byte ((a3 >>> ((Int32.ofInt 24) &&& 31)).toInt8.toInt32))) 13 (vp_nar .byte ((a3 >>> ((Int32.ofInt 16) &&& 31)).toInt8.toInt32))) 14 (vp_nar .byte ((a3 >>> ((Int32.ofInt 8) &&& 31)).toInt8.toInt32))) 15 (vp_nar .byte ((a3 >>> ((Int32.ofInt 0) &&& 31)).toInt8.toInt32)))))) : en_C l E M_X12_four 0 0 0 [.ref 277, .int a4] h (pF none [278, 277] h (fun h' => ob h' 278 = some (.inl (2, 65536, .inl (upd (upd (upd (upd (upd (upd (upd (upd (upd (upd (upd (upd (upd (upd (upd (upd (upd (upd (upd (upd (fun _ => 0) 0 (vp_nar .byte ((a0 >>> ((Int32.ofInt 24) &&& 31)).toInt8.toInt32))) 1 (vp_nar .byte ((a0 >>> ((Int32.ofInt 16) &&& 31)).toInt8.toInt32))) 2 (vp_nar .byte ((a0 >>> ((Int32.ofInt 8) &&& 31)).toInt8.toInt32))) 3 (vp_nar .byte ((a0 >>> ((Int32.ofInt 0) &&& 31)).toInt8.toInt32))) 4 (vp_nar .byte ((a1 >>> ((Int32.ofInt 24) &&& 31)).toInt8.toInt32))) 5 (vp_nar .byte ((a1 >>> ((Int32.ofInt 16) &&& 31)).toInt8.toInt32))) 6 (vp_nar .byte ((a1 >>> ((Int32.ofInt 8) &&& 31)).toInt8.toInt32))) 7 (vp_nar .byte ((a1 >>> ((Int32.ofInt 0) &&& 31)).toInt8.toInt32))) 8 (vp_nar .byte ((a2 >>> ((Int32.ofInt 24) &&& 31)).toInt8.toInt32))) 9 (vp_nar .byte ((a2 >>> ((Int32.ofInt 16) &&& 31)).toInt8.toInt32))) 10 (vp_nar .byte ((a2 >>> ((Int32.ofInt 8) &&& 31)).toInt8.toInt32))) 11 (vp_nar .byte ((a2 >>> ((Int32.ofInt 0) &&& 31)).toInt8.toInt32))) 12 (vp_nar .byte ((a3 >>> ((Int32.ofInt 24) &&& 31)).toInt8.toInt32))) 13 (vp_nar .byte ((a3 >>> ((Int32.ofInt 16) &&& 31)).toInt8.toInt32))) 14 (vp_nar .byte ((a3 >>> ((Int32.ofInt 8) &&& 31)).toInt8.toInt32))) 15 (vp_nar .byte ((a3 >>> ((Int32.ofInt 0) &&& 31)).toInt8.toInt32))) 16 (vp_nar .byte ((a4 >>> ((Int32.ofInt 24) &&& 31)).toInt8.toInt32))) 17 (vp_nar .byte ((a4 >>> ((Int32.ofInt 16) &&& 31)).toInt8.toInt32))) 18 (vp_nar .byte ((a4 >>> ((Int32.ofInt 8) &&& 31)).toInt8.toInt32))) 19 (vp_nar .byte ((a4 >>> ((Int32.ofInt 0) &&& 31)).toInt8.toInt32))))) ∧ ob h' 277 = some (.inr (15, (((RB dg).set 0 (.int (Int32.ofInt 0))).set 4 (.int (Int32.ofInt 20))))) ∧ True)) := by
  refine en_mk m_X12_four rfl hl (Nat.le_of_ble_eq_true rfl) ?_
  refine x_bipush (M := M_X12_four) dX12_four_0 ?_
  refine x_top (M := M_X12_four) (y := (Int32.ofInt 24)) (by decide +kernel) ?_
  refine x_istore_n (M := M_X12_four) dX12_four_2 (Nat.le_of_ble_eq_true rfl) rfl ?_
  refine x_iload_n (M := M_X12_four) dX12_four_3 rfl ?_
  refine x_if_lt (M := M_X12_four) (tgt := 36) dX12_four_4 (by decide) (fun q => absurd q (by decide +kernel)) (fun _ => ?_)
  refine x_aload_n (M := M_X12_four) dX12_four_7 rfl ?_
  refine x_getf (M := M_X12_four) (ci := 15) (C := RX12) (T := TX12) (N := 135) (ty := tyX12) cl15 dX12_four_8 o4195 3 (by decide) t_2394 (v := .ref 278) rfl ?_
  refine x_aload_n (M := M_X12_four) dX12_four_11 rfl ?_
  refine x_getf (M := M_X12_four) (ci := 15) (C := RX12) (T := TX12) (N := 135) (ty := tyX12) cl15 dX12_four_12 o4195 4 (by decide) t_2395 (v := .int (Int32.ofInt 16)) rfl ?_
  refine x_iload_n (M := M_X12_four) dX12_four_15 rfl ?_
  refine x_iload_n (M := M_X12_four) dX12_four_16 rfl ?_
  refine x_ishr (M := M_X12_four) dX12_four_17 ?_
  refine x_i2b (M := M_X12_four) dX12_four_18 ?_
  refine y_bast (M := M_X12_four) (k := 16) dX12_four_19 o4196 (vp_inD (by decide +kernel)) (by decide +kernel) (fun h4197 w4198 f4199 => ?_)
  refine x_aload_n (M := M_X12_four) dX12_four_20 rfl ?_
  refine x_dup (M := M_X12_four) dX12_four_21 rfl ?_
  have o4200 := (f4199 277 _ (by decide) o4195)
  refine x_getf (M := M_X12_four) (ci := 15) (C := RX12) (T := TX12) (N := 135) (ty := tyX12) cl15 dX12_four_22 o4200 4 (by decide) t_2395 (v := .int (Int32.ofInt 16)) rfl ?_
  refine x_iconst (M := M_X12_four) dX12_four_25 ?_
  refine x_iadd (M := M_X12_four) dX12_four_26 ?_
  refine x_top (M := M_X12_four) (y := (Int32.ofInt 17)) (by decide +kernel) ?_
  refine y_put (M := M_X12_four) (ci := 15) (C := RX12) (T := TX12) (N := 135) (ty := tyX12) cl15 dX12_four_27 o4200 4 (by decide) t_2395 (Or.inl rfl) (Nat.le_of_ble_eq_true rfl) rfl (fun h4201 w4202 f4203 => ?_)
  have w4204 : ob h4201 277 = some (.inr (15, (((RB dg).set 0 (.int (Int32.ofInt 0))).set 4 (.int (Int32.ofInt 17))))) := by rw [w4202, List.set_set]
  refine x_iinc (M := M_X12_four) dX12_four_30 rfl (Nat.le_of_ble_eq_true rfl) rfl ?_
  refine x_lvs (M := M_X12_four) (lv' := [some (.ref 277), some (.int a4), some (.int (Int32.ofInt 16))]) (by rw [(by decide +kernel : (Int32.ofInt 24) + Int32.ofInt (-8) = (Int32.ofInt 16))] <;> rfl) ?_
  refine x_goto (M := M_X12_four) (tgt := 3) dX12_four_33 (by decide) ?_
  refine x_iload_n (M := M_X12_four) dX12_four_3 rfl ?_
  refine x_if_lt (M := M_X12_four) (tgt := 36) dX12_four_4 (by decide) (fun q => absurd q (by decide +kernel)) (fun _ => ?_)
  refine x_aload_n (M := M_X12_four) dX12_four_7 rfl ?_
  refine x_getf (M := M_X12_four) (ci := 15) (C := RX12) (T := TX12) (N := 135) (ty := tyX12) cl15 dX12_four_8 w4204 3 (by decide) t_2394 (v := .ref 278) rfl ?_
  refine x_aload_n (M := M_X12_four) dX12_four_11 rfl ?_
  refine x_getf (M := M_X12_four) (ci := 15) (C := RX12) (T := TX12) (N := 135) (ty := tyX12) cl15 dX12_four_12 w4204 4 (by decide) t_2395 (v := .int (Int32.ofInt 17)) rfl ?_
  refine x_iload_n (M := M_X12_four) dX12_four_15 rfl ?_
  refine x_iload_n (M := M_X12_four) dX12_four_16 rfl ?_
  refine x_ishr (M := M_X12_four) dX12_four_17 ?_
  refine x_i2b (M := M_X12_four) dX12_four_18 ?_
  have o4205 := (f4203 278 _ (by decide) w4198)
  refine y_bast (M := M_X12_four) (k := 17) dX12_four_19 o4205 (vp_inD (by decide +kernel)) (by decide +kernel) (fun h4206 w4207 f4208 => ?_)
  refine x_aload_n (M := M_X12_four) dX12_four_20 rfl ?_
  refine x_dup (M := M_X12_four) dX12_four_21 rfl ?_
  have o4209 := (f4208 277 _ (by decide) w4204)
  refine x_getf (M := M_X12_four) (ci := 15) (C := RX12) (T := TX12) (N := 135) (ty := tyX12) cl15 dX12_four_22 o4209 4 (by decide) t_2395 (v := .int (Int32.ofInt 17)) rfl ?_
  refine x_iconst (M := M_X12_four) dX12_four_25 ?_
  refine x_iadd (M := M_X12_four) dX12_four_26 ?_
  refine x_top (M := M_X12_four) (y := (Int32.ofInt 18)) (by decide +kernel) ?_
  refine y_put (M := M_X12_four) (ci := 15) (C := RX12) (T := TX12) (N := 135) (ty := tyX12) cl15 dX12_four_27 o4209 4 (by decide) t_2395 (Or.inl rfl) (Nat.le_of_ble_eq_true rfl) rfl (fun h4210 w4211 f4212 => ?_)
  have w4213 : ob h4210 277 = some (.inr (15, (((RB dg).set 0 (.int (Int32.ofInt 0))).set 4 (.int (Int32.ofInt 18))))) := by rw [w4211, List.set_set]
  refine x_iinc (M := M_X12_four) dX12_four_30 rfl (Nat.le_of_ble_eq_true rfl) rfl ?_
  refine x_lvs (M := M_X12_four) (lv' := [some (.ref 277), some (.int a4), some (.int (Int32.ofInt 8))]) (by rw [(by decide +kernel : (Int32.ofInt 16) + Int32.ofInt (-8) = (Int32.ofInt 8))] <;> rfl) ?_
  refine x_goto (M := M_X12_four) (tgt := 3) dX12_four_33 (by decide) ?_
  refine x_iload_n (M := M_X12_four) dX12_four_3 rfl ?_
  refine x_if_lt (M := M_X12_four) (tgt := 36) dX12_four_4 (by decide) (fun q => absurd q (by decide +kernel)) (fun _ => ?_)
  refine x_aload_n (M := M_X12_four) dX12_four_7 rfl ?_
  refine x_getf (M := M_X12_four) (ci := 15) (C := RX12) (T := TX12) (N := 135) (ty := tyX12) cl15 dX12_four_8 w4213 3 (by decide) t_2394 (v := .ref 278) rfl ?_
  refine x_aload_n (M := M_X12_four) dX12_four_11 rfl ?_
  refine x_getf (M := M_X12_four) (ci := 15) (C := RX12) (T := TX12) (N := 135) (ty := tyX12) cl15 dX12_four_12 w4213 4 (by decide) t_2395 (v := .int (Int32.ofInt 18)) rfl ?_
  refine x_iload_n (M := M_X12_four) dX12_four_15 rfl ?_
  refine x_iload_n (M := M_X12_four) dX12_four_16 rfl ?_
  refine x_ishr (M := M_X12_four) dX12_four_17 ?_
  refine x_i2b (M := M_X12_four) dX12_four_18 ?_
  have o4214 := (f4212 278 _ (by decide) w4207)
  refine y_bast (M := M_X12_four) (k := 18) dX12_four_19 o4214 (vp_inD (by decide +kernel)) (by decide +kernel) (fun h4215 w4216 f4217 => ?_)
  refine x_aload_n (M := M_X12_four) dX12_four_20 rfl ?_
  refine x_dup (M := M_X12_four) dX12_four_21 rfl ?_
  have o4218 := (f4217 277 _ (by decide) w4213)
  refine x_getf (M := M_X12_four) (ci := 15) (C := RX12) (T := TX12) (N := 135) (ty := tyX12) cl15 dX12_four_22 o4218 4 (by decide) t_2395 (v := .int (Int32.ofInt 18)) rfl ?_
  refine x_iconst (M := M_X12_four) dX12_four_25 ?_
  refine x_iadd (M := M_X12_four) dX12_four_26 ?_
  refine x_top (M := M_X12_four) (y := (Int32.ofInt 19)) (by decide +kernel) ?_
  refine y_put (M := M_X12_four) (ci := 15) (C := RX12) (T := TX12) (N := 135) (ty := tyX12) cl15 dX12_four_27 o4218 4 (by decide) t_2395 (Or.inl rfl) (Nat.le_of_ble_eq_true rfl) rfl (fun h4219 w4220 f4221 => ?_)
  have w4222 : ob h4219 277 = some (.inr (15, (((RB dg).set 0 (.int (Int32.ofInt 0))).set 4 (.int (Int32.ofInt 19))))) := by rw [w4220, List.set_set]
  refine x_iinc (M := M_X12_four) dX12_four_30 rfl (Nat.le_of_ble_eq_true rfl) rfl ?_
  refine x_lvs (M := M_X12_four) (lv' := [some (.ref 277), some (.int a4), some (.int (Int32.ofInt 0))]) (by rw [(by decide +kernel : (Int32.ofInt 8) + Int32.ofInt (-8) = (Int32.ofInt 0))] <;> rfl) ?_
  refine x_goto (M := M_X12_four) (tgt := 3) dX12_four_33 (by decide) ?_
  refine x_iload_n (M := M_X12_four) dX12_four_3 rfl ?_
  refine x_if_lt (M := M_X12_four) (tgt := 36) dX12_four_4 (by decide) (fun q => absurd q (by decide +kernel)) (fun _ => ?_)
  refine x_aload_n (M := M_X12_four) dX12_four_7 rfl ?_
  refine x_getf (M := M_X12_four) (ci := 15) (C := RX12) (T := TX12) (N := 135) (ty := tyX12) cl15 dX12_four_8 w4222 3 (by decide) t_2394 (v := .ref 278) rfl ?_
  refine x_aload_n (M := M_X12_four) dX12_four_11 rfl ?_
  refine x_getf (M := M_X12_four) (ci := 15) (C := RX12) (T := TX12) (N := 135) (ty := tyX12) cl15 dX12_four_12 w4222 4 (by decide) t_2395 (v := .int (Int32.ofInt 19)) rfl ?_
  refine x_iload_n (M := M_X12_four) dX12_four_15 rfl ?_
  refine x_iload_n (M := M_X12_four) dX12_four_16 rfl ?_
  refine x_ishr (M := M_X12_four) dX12_four_17 ?_
  refine x_i2b (M := M_X12_four) dX12_four_18 ?_
  have o4223 := (f4221 278 _ (by decide) w4216)
  refine y_bast (M := M_X12_four) (k := 19) dX12_four_19 o4223 (vp_inD (by decide +kernel)) (by decide +kernel) (fun h4224 w4225 f4226 => ?_)
  refine x_aload_n (M := M_X12_four) dX12_four_20 rfl ?_
  refine x_dup (M := M_X12_four) dX12_four_21 rfl ?_
  have o4227 := (f4226 277 _ (by decide) w4222)
  refine x_getf (M := M_X12_four) (ci := 15) (C := RX12) (T := TX12) (N := 135) (ty := tyX12) cl15 dX12_four_22 o4227 4 (by decide) t_2395 (v := .int (Int32.ofInt 19)) rfl ?_
  refine x_iconst (M := M_X12_four) dX12_four_25 ?_
  refine x_iadd (M := M_X12_four) dX12_four_26 ?_
  refine x_top (M := M_X12_four) (y := (Int32.ofInt 20)) (by decide +kernel) ?_
  refine y_put (M := M_X12_four) (ci := 15) (C := RX12) (T := TX12) (N := 135) (ty := tyX12) cl15 dX12_four_27 o4227 4 (by decide) t_2395 (Or.inl rfl) (Nat.le_of_ble_eq_true rfl) rfl (fun h4228 w4229 f4230 => ?_)
  have w4231 : ob h4228 277 = some (.inr (15, (((RB dg).set 0 (.int (Int32.ofInt 0))).set 4 (.int (Int32.ofInt 20))))) := by rw [w4229, List.set_set]
  refine x_iinc (M := M_X12_four) dX12_four_30 rfl (Nat.le_of_ble_eq_true rfl) rfl ?_
  refine x_lvs (M := M_X12_four) (lv' := [some (.ref 277), some (.int a4), some (.int (Int32.ofInt (-8)))]) (by rw [(by decide +kernel : (Int32.ofInt 0) + Int32.ofInt (-8) = (Int32.ofInt (-8)))] <;> rfl) ?_
  refine x_goto (M := M_X12_four) (tgt := 3) dX12_four_33 (by decide) ?_
  refine x_iload_n (M := M_X12_four) dX12_four_3 rfl ?_
  refine x_if_lt (M := M_X12_four) (tgt := 36) dX12_four_4 (by decide) (fun _ => ?_) (fun q => absurd q (by decide +kernel))
  have o4232 := (f4230 278 _ (by decide) w4225)
  exact x_vret (M := M_X12_four) dX12_four_36 rfl ⟨rfl, (fr_tr f4230 (by decide) (fr_tr f4226 (by decide) (fr_tr f4221 (by decide) (fr_tr f4217 (by decide) (fr_tr f4212 (by decide) (fr_tr f4208 (by decide) (fr_tr f4203 (by decide) (fr_tr f4199 (by decide) fr_rf)))))))), ⟨o4232, w4231, trivial⟩⟩ (Nat.le_of_ble_eq_true rfl) (Nat.le_of_ble_eq_true rfl)
set_option maxRecDepth 10000 in
theorem q4239 {l : Launch} {E : EE} (hl : l.stackTraces = false) {h : HP} {a0 : Int32} {a1 : Int32} {a2 : Int32} {a3 : Int32} {a4 : Int32} {dg : Int32} (o4010 : ob h 277 = some (.inr (15, (RB dg)))) (o4056 : ob h 278 = some (.inl (2, 65536, .inl (fun _ => 0)))) : en_C l E M_X12_feed 1 0 0 [.ref 277, .int a0, .int a1, .int a2, .int a3, .int a4] h (pF (some (.int (Int32.ofInt 20))) [277, 278] h (fun h' => ob h' 277 = some (.inr (15, (((RB dg).set 0 (.int (Int32.ofInt 0))).set 4 (.int (Int32.ofInt 20))))) ∧ ob h' 278 = some (.inl (2, 65536, .inl (upd (upd (upd (upd (upd (upd (upd (upd (upd (upd (upd (upd (upd (upd (upd (upd (upd (upd (upd (upd (fun _ => 0) 0 (vp_nar .byte ((a0 >>> ((Int32.ofInt 24) &&& 31)).toInt8.toInt32))) 1 (vp_nar .byte ((a0 >>> ((Int32.ofInt 16) &&& 31)).toInt8.toInt32))) 2 (vp_nar .byte ((a0 >>> ((Int32.ofInt 8) &&& 31)).toInt8.toInt32))) 3 (vp_nar .byte ((a0 >>> ((Int32.ofInt 0) &&& 31)).toInt8.toInt32))) 4 (vp_nar .byte ((a1 >>> ((Int32.ofInt 24) &&& 31)).toInt8.toInt32))) 5 (vp_nar .byte ((a1 >>> ((Int32.ofInt 16) &&& 31)).toInt8.toInt32))) 6 (vp_nar .byte ((a1 >>> ((Int32.ofInt 8) &&& 31)).toInt8.toInt32))) 7 (vp_nar .byte ((a1 >>> ((Int32.ofInt 0) &&& 31)).toInt8.toInt32))) 8 (vp_nar .byte ((a2 >>> ((Int32.ofInt 24) &&& 31)).toInt8.toInt32))) 9 (vp_nar .byte ((a2 >>> ((Int32.ofInt 16) &&& 31)).toInt8.toInt32))) 10 (vp_nar .byte ((a2 >>> ((Int32.ofInt 8) &&& 31)).toInt8.toInt32))) 11 (vp_nar .byte ((a2 >>> ((Int32.ofInt 0) &&& 31)).toInt8.toInt32))) 12 (vp_nar .byte ((a3 >>> ((Int32.ofInt 24) &&& 31)).toInt8.toInt32))) 13 (vp_nar .byte ((a3 >>> ((Int32.ofInt 16) &&& 31)).toInt8.toInt32))) 14 (vp_nar .byte ((a3 >>> ((Int32.ofInt 8) &&& 31)).toInt8.toInt32))) 15 (vp_nar .byte ((a3 >>> ((Int32.ofInt 0) &&& 31)).toInt8.toInt32))) 16 (vp_nar .byte ((a4 >>> ((Int32.ofInt 24) &&& 31)).toInt8.toInt32))) 17 (vp_nar .byte ((a4 >>> ((Int32.ofInt 16) &&& 31)).toInt8.toInt32))) 18 (vp_nar .byte ((a4 >>> ((Int32.ofInt 8) &&& 31)).toInt8.toInt32))) 19 (vp_nar .byte ((a4 >>> ((Int32.ofInt 0) &&& 31)).toInt8.toInt32))))) ∧ True)) := by
  refine en_mk m_X12_feed rfl hl (Nat.le_of_ble_eq_true rfl) ?_
  refine x_aload_n (M := M_X12_feed) dX12_feed_0 rfl ?_
  refine x_iconst (M := M_X12_feed) dX12_feed_1 ?_
  refine y_put (M := M_X12_feed) (ci := 15) (C := RX12) (T := TX12) (N := 135) (ty := tyX12) cl15 dX12_feed_2 o4010 0 (by decide) t_2391 (Or.inl rfl) (Nat.le_of_ble_eq_true rfl) rfl (fun h4011 w4012 f4013 => ?_)
  refine x_aload_n (M := M_X12_feed) dX12_feed_5 rfl ?_
  refine x_aload_n (M := M_X12_feed) dX12_feed_6 rfl ?_
  refine x_getf (M := M_X12_feed) (ci := 15) (C := RX12) (T := TX12) (N := 135) (ty := tyX12) cl15 dX12_feed_7 w4012 4 (by decide) t_2395 (v := .int (0 : Int32)) rfl ?_
  refine x_bipush (M := M_X12_feed) dX12_feed_10 ?_
  refine x_iadd (M := M_X12_feed) dX12_feed_12 ?_
  refine x_ldc (M := M_X12_feed) dX12_feed_13 t_2385 ?_
  refine x_icmp_le (M := M_X12_feed) (tgt := 22) dX12_feed_15 (by decide) (fun _ => ?_) (fun q => absurd q (by decide +kernel))
  refine x_iconst (M := M_X12_feed) dX12_feed_22 ?_
  refine x_iconst (M := M_X12_feed) dX12_feed_23 ?_
  refine y_callVR (M := M_X12_feed) (M' := M_X12_fails) rfl rfl dX12_feed_24 m_X12_fails t_2805 t_2807 s_157 (q241 hl w4012) rfl rfl w4012 rfl (Nat.le_of_ble_eq_true rfl) (Nat.le_of_ble_eq_true rfl) (Nat.le_of_ble_eq_true rfl) (Nat.le_of_ble_eq_true rfl) (fun h4014 f4015 w4016 => ?_)
  obtain ⟨o4017, -⟩ := w4016
  refine x_if_eq (M := M_X12_feed) (tgt := 32) dX12_feed_27 (by decide) (fun _ => ?_) (fun q => absurd q (by decide +kernel))
  refine x_aload_n (M := M_X12_feed) dX12_feed_32 rfl ?_
  refine x_iload_n (M := M_X12_feed) dX12_feed_33 rfl ?_
  have o4057 := (f4015 278 _ (by decide) (f4013 278 _ (by decide) o4056))
  refine y_callVR (M := M_X12_feed) (M' := M_X12_four) rfl rfl dX12_feed_34 m_X12_four t_2809 t_2811 s_158 (q4055 hl o4017 o4057) rfl rfl o4017 rfl (Nat.le_of_ble_eq_true rfl) (Nat.le_of_ble_eq_true rfl) (Nat.le_of_ble_eq_true rfl) (Nat.le_of_ble_eq_true rfl) (fun h4058 f4059 w4060 => ?_)
  obtain ⟨o4061, o4062, -⟩ := w4060
  refine x_aload_n (M := M_X12_feed) dX12_feed_37 rfl ?_
  refine x_iload_n (M := M_X12_feed) dX12_feed_38 rfl ?_
  refine y_callVR (M := M_X12_feed) (M' := M_X12_four) rfl rfl dX12_feed_39 m_X12_four t_2809 t_2811 s_158 (q4101 hl o4062 o4061) rfl rfl o4062 rfl (Nat.le_of_ble_eq_true rfl) (Nat.le_of_ble_eq_true rfl) (Nat.le_of_ble_eq_true rfl) (Nat.le_of_ble_eq_true rfl) (fun h4102 f4103 w4104 => ?_)
  obtain ⟨o4105, o4106, -⟩ := w4104
  refine x_aload_n (M := M_X12_feed) dX12_feed_42 rfl ?_
  refine x_iload_n (M := M_X12_feed) dX12_feed_43 rfl ?_
  refine y_callVR (M := M_X12_feed) (M' := M_X12_four) rfl rfl dX12_feed_44 m_X12_four t_2809 t_2811 s_158 (q4145 hl o4106 o4105) rfl rfl o4106 rfl (Nat.le_of_ble_eq_true rfl) (Nat.le_of_ble_eq_true rfl) (Nat.le_of_ble_eq_true rfl) (Nat.le_of_ble_eq_true rfl) (fun h4146 f4147 w4148 => ?_)
  obtain ⟨o4149, o4150, -⟩ := w4148
  refine x_aload_n (M := M_X12_feed) dX12_feed_47 rfl ?_
  refine x_iload (M := M_X12_feed) dX12_feed_48 rfl ?_
  refine y_callVR (M := M_X12_feed) (M' := M_X12_four) rfl rfl dX12_feed_50 m_X12_four t_2809 t_2811 s_158 (q4189 hl o4150 o4149) rfl rfl o4150 rfl (Nat.le_of_ble_eq_true rfl) (Nat.le_of_ble_eq_true rfl) (Nat.le_of_ble_eq_true rfl) (Nat.le_of_ble_eq_true rfl) (fun h4190 f4191 w4192 => ?_)
  obtain ⟨o4193, o4194, -⟩ := w4192
  refine x_aload_n (M := M_X12_feed) dX12_feed_53 rfl ?_
  refine x_iload (M := M_X12_feed) dX12_feed_54 rfl ?_
  refine y_callVR (M := M_X12_feed) (M' := M_X12_four) rfl rfl dX12_feed_56 m_X12_four t_2809 t_2811 s_158 (q4233 hl o4194 o4193) rfl rfl o4194 rfl (Nat.le_of_ble_eq_true rfl) (Nat.le_of_ble_eq_true rfl) (Nat.le_of_ble_eq_true rfl) (Nat.le_of_ble_eq_true rfl) (fun h4234 f4235 w4236 => ?_)
  obtain ⟨o4237, o4238, -⟩ := w4236
  refine x_aload_n (M := M_X12_feed) dX12_feed_59 rfl ?_
  refine x_getf (M := M_X12_feed) (ci := 15) (C := RX12) (T := TX12) (N := 135) (ty := tyX12) cl15 dX12_feed_60 o4238 4 (by decide) t_2395 (v := .int (Int32.ofInt 20)) rfl ?_
  exact x_iret (M := M_X12_feed) dX12_feed_63 rfl ⟨rfl, (fr_tr f4235 (by decide) (fr_tr f4191 (by decide) (fr_tr f4147 (by decide) (fr_tr f4103 (by decide) (fr_tr f4059 (by decide) (fr_tr f4015 (by decide) (fr_tr f4013 (by decide) fr_rf))))))), ⟨o4238, o4237, trivial⟩⟩ (Nat.le_of_ble_eq_true rfl) (Nat.le_of_ble_eq_true rfl)
set_option maxRecDepth 10000 in
theorem q4250 {l : Launch} {E : EE} (hl : l.stackTraces = false) {h : HP} {dg : Int32} (o4249 : ob h 277 = some (.inr (15, (((RB dg).set 0 (.int (Int32.ofInt 0))).set 4 (.int (Int32.ofInt 20)))))) : en_C l E M_X12_thrown 0 0 0 [.ref 277] h (pR (some (.int (Int32.ofInt 0))) h) := by
  refine en_mk m_X12_thrown rfl hl (Nat.le_of_ble_eq_true rfl) ?_
  refine x_aload_n (M := M_X12_thrown) dX12_thrown_0 rfl ?_
  refine x_getf (M := M_X12_thrown) (ci := 15) (C := RX12) (T := TX12) (N := 135) (ty := tyX12) cl15 dX12_thrown_1 o4249 0 (by decide) t_2391 (v := .int (Int32.ofInt 0)) rfl ?_
  exact x_iret (M := M_X12_thrown) dX12_thrown_4 rfl ⟨rfl, rfl⟩ (Nat.le_of_ble_eq_true rfl) (Nat.le_of_ble_eq_true rfl)
set_option maxRecDepth 10000 in
theorem lc0_0 {l : Launch} {E : EE} (hl : l.stackTraces = false) (nm : String) {xs : Nat → Int32} (hx : E.2.2.2.2 0 = some (7, xs)) {h : HP} {a0 : Int32} {a1 : Int32} {a2 : Int32} {a3 : Int32} {a4 : Int32} {dg : Int32} (e2 : xs 2 = a0) (e3 : xs 3 = a1) (e4 : xs 4 = a2) (e5 : xs 5 = a3) (e6 : xs 6 = a4) (o4003 : ob h 32 = some (.inr (14, [.ref 33, .ref 162, .ref 166, .int (0 : Int32), .int (0 : Int32), .int (0 : Int32), .ref 167, .ref 170, .ref 173, .ref 177, .ref 193, .ref 208, .ref 222, .ref 238, .ref 252, .ref 274, .ref 275, .ref 276, .int (0 : Int32)]))) (o4004 : ob h 166 = some (.inl (2, 65536, .inl (fun _ => 0)))) (o4005 : ob h 359 = some (.inl (1, 1, .inr (.inl (fun _ => 0))))) (o4240 : ob h 277 = some (.inr (15, (RB dg)))) (o4242 : ob h 278 = some (.inl (2, 65536, .inl (fun _ => 0)))) : XX l E (M_law nm) 1312 342628 8074320 (fun o _ => o = .inl (some (.int 1))) 192 [some (.ref 0), some (.ref 32), some (.ref 277), some (.ref 359), some (.int (Int32.ofInt 1)), none, none, none] [] h 328 2463747 := by
  refine x_aload_n (M := (M_law nm)) dL_law_192 rfl ?_
  refine x_aload_n (M := (M_law nm)) dL_law_193 rfl ?_
  refine x_iload (M := (M_law nm)) dL_law_194 rfl ?_
  refine x_iconst (M := (M_law nm)) dL_law_196 ?_
  refine x_iadd (M := (M_law nm)) dL_law_197 ?_
  refine x_sald (M := (M_law nm)) dL_law_198 (by decide) hx (vp_inD (by decide +kernel)) ?_
  refine x_top (M := (M_law nm)) (y := a0) ((congrArg xs (by decide +kernel : ((Int32.ofInt 1) + (Int32.ofInt 1)).toNatClampNeg = 2)).trans e2) ?_
  refine x_aload_n (M := (M_law nm)) dL_law_199 rfl ?_
  refine x_iload (M := (M_law nm)) dL_law_200 rfl ?_
  refine x_iconst (M := (M_law nm)) dL_law_202 ?_
  refine x_iadd (M := (M_law nm)) dL_law_203 ?_
  refine x_sald (M := (M_law nm)) dL_law_204 (by decide) hx (vp_inD (by decide +kernel)) ?_
  refine x_top (M := (M_law nm)) (y := a1) ((congrArg xs (by decide +kernel : ((Int32.ofInt 1) + (Int32.ofInt 2)).toNatClampNeg = 3)).trans e3) ?_
  refine x_aload_n (M := (M_law nm)) dL_law_205 rfl ?_
  refine x_iload (M := (M_law nm)) dL_law_206 rfl ?_
  refine x_iconst (M := (M_law nm)) dL_law_208 ?_
  refine x_iadd (M := (M_law nm)) dL_law_209 ?_
  refine x_sald (M := (M_law nm)) dL_law_210 (by decide) hx (vp_inD (by decide +kernel)) ?_
  refine x_top (M := (M_law nm)) (y := a2) ((congrArg xs (by decide +kernel : ((Int32.ofInt 1) + (Int32.ofInt 3)).toNatClampNeg = 4)).trans e4) ?_
  refine x_aload_n (M := (M_law nm)) dL_law_211 rfl ?_
  refine x_iload (M := (M_law nm)) dL_law_212 rfl ?_
  refine x_iconst (M := (M_law nm)) dL_law_214 ?_
  refine x_iadd (M := (M_law nm)) dL_law_215 ?_
  refine x_sald (M := (M_law nm)) dL_law_216 (by decide) hx (vp_inD (by decide +kernel)) ?_
  refine x_top (M := (M_law nm)) (y := a3) ((congrArg xs (by decide +kernel : ((Int32.ofInt 1) + (Int32.ofInt 4)).toNatClampNeg = 5)).trans e5) ?_
  refine x_aload_n (M := (M_law nm)) dL_law_217 rfl ?_
  refine x_iload (M := (M_law nm)) dL_law_218 rfl ?_
  refine x_iconst (M := (M_law nm)) dL_law_220 ?_
  refine x_iadd (M := (M_law nm)) dL_law_221 ?_
  refine x_sald (M := (M_law nm)) dL_law_222 (by decide) hx (vp_inD (by decide +kernel)) ?_
  refine x_top (M := (M_law nm)) (y := a4) ((congrArg xs (by decide +kernel : ((Int32.ofInt 1) + (Int32.ofInt 5)).toNatClampNeg = 6)).trans e6) ?_
  refine x_aload_n (M := (M_law nm)) dL_law_223 rfl ?_
  refine y_callSW (M := (M_law nm)) (M' := M_L_feed) rfl rfl dL_law_224 m_L_feed t_634 t_635 (q4002 hl o4003 o4004 o4005) rfl rfl (Nat.le_of_ble_eq_true rfl) (Nat.le_of_ble_eq_true rfl) (Nat.le_of_ble_eq_true rfl) (Nat.le_of_ble_eq_true rfl) (fun h4006 f4007 w4008 => ?_)
  obtain ⟨o4009, -⟩ := w4008
  refine x_istore (M := (M_law nm)) dL_law_227 (Nat.le_of_ble_eq_true rfl) rfl ?_
  refine x_aload_n (M := (M_law nm)) dL_law_229 rfl ?_
  refine x_aload_n (M := (M_law nm)) dL_law_230 rfl ?_
  refine x_iload (M := (M_law nm)) dL_law_231 rfl ?_
  refine x_iconst (M := (M_law nm)) dL_law_233 ?_
  refine x_iadd (M := (M_law nm)) dL_law_234 ?_
  refine x_sald (M := (M_law nm)) dL_law_235 (by decide) hx (vp_inD (by decide +kernel)) ?_
  refine x_top (M := (M_law nm)) (y := a0) ((congrArg xs (by decide +kernel : ((Int32.ofInt 1) + (Int32.ofInt 1)).toNatClampNeg = 2)).trans e2) ?_
  refine x_aload_n (M := (M_law nm)) dL_law_236 rfl ?_
  refine x_iload (M := (M_law nm)) dL_law_237 rfl ?_
  refine x_iconst (M := (M_law nm)) dL_law_239 ?_
  refine x_iadd (M := (M_law nm)) dL_law_240 ?_
  refine x_sald (M := (M_law nm)) dL_law_241 (by decide) hx (vp_inD (by decide +kernel)) ?_
  refine x_top (M := (M_law nm)) (y := a1) ((congrArg xs (by decide +kernel : ((Int32.ofInt 1) + (Int32.ofInt 2)).toNatClampNeg = 3)).trans e3) ?_
  refine x_aload_n (M := (M_law nm)) dL_law_242 rfl ?_
  refine x_iload (M := (M_law nm)) dL_law_243 rfl ?_
  refine x_iconst (M := (M_law nm)) dL_law_245 ?_
  refine x_iadd (M := (M_law nm)) dL_law_246 ?_
  refine x_sald (M := (M_law nm)) dL_law_247 (by decide) hx (vp_inD (by decide +kernel)) ?_
  refine x_top (M := (M_law nm)) (y := a2) ((congrArg xs (by decide +kernel : ((Int32.ofInt 1) + (Int32.ofInt 3)).toNatClampNeg = 4)).trans e4) ?_
  refine x_aload_n (M := (M_law nm)) dL_law_248 rfl ?_
  refine x_iload (M := (M_law nm)) dL_law_249 rfl ?_
  refine x_iconst (M := (M_law nm)) dL_law_251 ?_
  refine x_iadd (M := (M_law nm)) dL_law_252 ?_
  refine x_sald (M := (M_law nm)) dL_law_253 (by decide) hx (vp_inD (by decide +kernel)) ?_
  refine x_top (M := (M_law nm)) (y := a3) ((congrArg xs (by decide +kernel : ((Int32.ofInt 1) + (Int32.ofInt 4)).toNatClampNeg = 5)).trans e5) ?_
  refine x_aload_n (M := (M_law nm)) dL_law_254 rfl ?_
  refine x_iload (M := (M_law nm)) dL_law_255 rfl ?_
  refine x_iconst (M := (M_law nm)) dL_law_257 ?_
  refine x_iadd (M := (M_law nm)) dL_law_258 ?_
  refine x_sald (M := (M_law nm)) dL_law_259 (by decide) hx (vp_inD (by decide +kernel)) ?_
  refine x_top (M := (M_law nm)) (y := a4) ((congrArg xs (by decide +kernel : ((Int32.ofInt 1) + (Int32.ofInt 5)).toNatClampNeg = 6)).trans e6) ?_
  have o4241 := (f4007 277 _ (by decide) o4240)
  have o4243 := (f4007 278 _ (by decide) o4242)
  refine y_callVR (M := (M_law nm)) (M' := M_X12_feed) rfl rfl dL_law_260 m_X12_feed t_2801 t_2802 t_2803 (q4239 hl o4241 o4243) rfl rfl o4241 rfl (Nat.le_of_ble_eq_true rfl) (Nat.le_of_ble_eq_true rfl) (Nat.le_of_ble_eq_true rfl) (Nat.le_of_ble_eq_true rfl) (fun h4244 f4245 w4246 => ?_)
  obtain ⟨o4247, o4248, -⟩ := w4246
  refine x_istore (M := (M_law nm)) dL_law_263 (Nat.le_of_ble_eq_true rfl) rfl ?_
  refine x_aload_n (M := (M_law nm)) dL_law_265 rfl ?_
  refine x_callVR (M := (M_law nm)) (M' := M_X12_thrown) rfl rfl dL_law_266 m_X12_thrown t_2797 t_2798 t_2799 (q4250 hl o4247) rfl rfl o4247 rfl (Nat.le_of_ble_eq_true rfl) (Nat.le_of_ble_eq_true rfl) (Nat.le_of_ble_eq_true rfl) (Nat.le_of_ble_eq_true rfl) ?_
  refine x_iload (M := (M_law nm)) dL_law_269 rfl ?_
  refine x_icmp_eq (M := (M_law nm)) (tgt := 276) dL_law_271 (by decide) (fun _ => ?_) (fun q => absurd q (by decide +kernel))
  refine x_iload (M := (M_law nm)) dL_law_276 rfl ?_
  refine x_if_ne (M := (M_law nm)) (tgt := 293) dL_law_278 (by decide) (fun q => absurd q (by decide +kernel)) (fun _ => ?_)
  refine x_aload_n (M := (M_law nm)) dL_law_281 rfl ?_
  refine x_iconst (M := (M_law nm)) dL_law_282 ?_
  have o4251 := (f4245 359 _ (by decide) o4009)
  refine x_lald (M := (M_law nm)) dL_law_283 o4251 (vp_inD (by decide +kernel)) ?_
  refine x_topl (M := (M_law nm)) (y := (Int64.ofInt 20)) (by decide +kernel) ?_
  refine x_iload (M := (M_law nm)) dL_law_284 rfl ?_
  refine x_i2l (M := (M_law nm)) dL_law_286 ?_
  refine x_lcmp (M := (M_law nm)) dL_law_287 ?_
  refine x_if_eq (M := (M_law nm)) (tgt := 293) dL_law_288 (by decide) (fun _ => ?_) (fun q => absurd q (by decide +kernel))
  refine x_goto (M := (M_law nm)) (tgt := 2449) dL_law_293 (by decide) ?_
  refine x_iinc (M := (M_law nm)) dL_law_2449 rfl (Nat.le_of_ble_eq_true rfl) rfl ?_
  refine x_lvs (M := (M_law nm)) (lv' := [some (.ref 0), some (.ref 32), some (.ref 277), some (.ref 359), some (.int (Int32.ofInt 7)), some (.int (Int32.ofInt 0)), some (.int (Int32.ofInt 20)), none]) (by rw [(by decide +kernel : (Int32.ofInt 1) + Int32.ofInt 6 = (Int32.ofInt 7))] <;> rfl) ?_
  refine x_goto (M := (M_law nm)) (tgt := 33) dL_law_2452 (by decide) ?_
  refine x_iload (M := (M_law nm)) dL_law_33 rfl ?_
  refine x_aload_n (M := (M_law nm)) dL_law_35 rfl ?_
  refine x_slen (M := (M_law nm)) dL_law_36 (by decide) hx ?_
  refine x_bipush (M := (M_law nm)) dL_law_37 ?_
  refine x_isub (M := (M_law nm)) dL_law_39 ?_
  refine x_icmp_gt (M := (M_law nm)) (tgt := 2455) dL_law_40 (by decide) (fun _ => ?_) (fun q => absurd q (by decide +kernel))
  refine x_iconst (M := (M_law nm)) dL_law_2455 ?_
  exact x_zret (M := (M_law nm)) dL_law_2456 rfl (by decide) rfl (Nat.le_of_ble_eq_true rfl) (Nat.le_of_ble_eq_true rfl)
theorem lop0 {l : Launch} {E : EE} (hl : l.stackTraces = false) (nm : String) {xs : Nat → Int32} (hx : E.2.2.2.2 0 = some (7, xs)) (dg : Int32) : XX l E (M_law nm) 1312 342628 8074320 (fun o _ => o = .inl (some (.int 1))) 192 [some (.ref 0), some (.ref 32), some (.ref 277), some (.ref 359), some (.int (Int32.ofInt 1)), none, none, none] [] (HH dg) 328 2463747 := by
  obtain ⟨a0, e2⟩ : ∃ a : Int32, xs 2 = a := ⟨_, rfl⟩
  obtain ⟨a1, e3⟩ : ∃ a : Int32, xs 3 = a := ⟨_, rfl⟩
  obtain ⟨a2, e4⟩ : ∃ a : Int32, xs 4 = a := ⟨_, rfl⟩
  obtain ⟨a3, e5⟩ : ∃ a : Int32, xs 5 = a := ⟨_, rfl⟩
  obtain ⟨a4, e6⟩ : ∃ a : Int32, xs 6 = a := ⟨_, rfl⟩
  exact lc0_0 hl nm hx e2 e3 e4 e5 e6 (o_32 dg) (o_166 dg) (o_359 dg) (o_277b dg) (oMR (dg := dg) (k := 0) rfl)
end CAS
