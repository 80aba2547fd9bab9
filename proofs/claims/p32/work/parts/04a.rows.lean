theorem dX11_feed_0 : decode cX11_feed 0 = .ok (.aload_n 0, 1) := by decide +kernel
theorem dX11_feed_1 : decode cX11_feed 1 = .ok (.getfield 105, 3) := by decide +kernel
theorem dX11_feed_4 : decode cX11_feed 4 = .ok (.ldc 109, 2) := by decide +kernel
theorem dX11_feed_6 : decode cX11_feed 6 = .ok (.if_icmp .le 11, 3) := by decide +kernel
theorem dX11_feed_9 : decode cX11_feed 9 = .ok (.new 110, 3) := by decide +kernel
theorem dX11_feed_12 : decode cX11_feed 12 = .ok (.dup, 1) := by decide +kernel
theorem dX11_feed_13 : decode cX11_feed 13 = .ok (.invokespecial 112, 3) := by decide +kernel
theorem dX11_feed_16 : decode cX11_feed 16 = .ok (.athrow, 1) := by decide +kernel
theorem dX11_feed_17 : decode cX11_feed 17 = .ok (.aload_n 0, 1) := by decide +kernel
theorem dX11_feed_18 : decode cX11_feed 18 = .ok (.iload_n 1, 1) := by decide +kernel
theorem dX11_feed_19 : decode cX11_feed 19 = .ok (.invokevirtual 113, 3) := by decide +kernel
theorem dX11_feed_22 : decode cX11_feed 22 = .ok (.aload_n 0, 1) := by decide +kernel
theorem dX11_feed_23 : decode cX11_feed 23 = .ok (.iload_n 2, 1) := by decide +kernel
theorem dX11_feed_24 : decode cX11_feed 24 = .ok (.invokevirtual 113, 3) := by decide +kernel
theorem dX11_feed_27 : decode cX11_feed 27 = .ok (.aload_n 0, 1) := by decide +kernel
theorem dX11_feed_28 : decode cX11_feed 28 = .ok (.iload_n 3, 1) := by decide +kernel
theorem dX11_feed_29 : decode cX11_feed 29 = .ok (.invokevirtual 113, 3) := by decide +kernel
theorem dX11_feed_32 : decode cX11_feed 32 = .ok (.aload_n 0, 1) := by decide +kernel
theorem dX11_feed_33 : decode cX11_feed 33 = .ok (.iload 4, 2) := by decide +kernel
theorem dX11_feed_35 : decode cX11_feed 35 = .ok (.invokevirtual 113, 3) := by decide +kernel
theorem dX11_feed_38 : decode cX11_feed 38 = .ok (.aload_n 0, 1) := by decide +kernel
theorem dX11_feed_39 : decode cX11_feed 39 = .ok (.iload 5, 2) := by decide +kernel
theorem dX11_feed_41 : decode cX11_feed 41 = .ok (.invokevirtual 113, 3) := by decide +kernel
theorem dX11_feed_44 : decode cX11_feed 44 = .ok (.aload_n 0, 1) := by decide +kernel
theorem dX11_feed_45 : decode cX11_feed 45 = .ok (.getfield 105, 3) := by decide +kernel
theorem dX11_feed_48 : decode cX11_feed 48 = .ok (.ireturn, 1) := by decide +kernel
theorem dX11_layOnTape_0 : decode cX11_layOnTape 0 = .ok (.bipush 24, 2) := by decide +kernel
theorem dX11_layOnTape_2 : decode cX11_layOnTape 2 = .ok (.istore_n 2, 1) := by decide +kernel
theorem dX11_layOnTape_3 : decode cX11_layOnTape 3 = .ok (.iload_n 2, 1) := by decide +kernel
theorem dX11_layOnTape_4 : decode cX11_layOnTape 4 = .ok (.ifCond .lt 41, 3) := by decide +kernel
theorem dX11_layOnTape_7 : decode cX11_layOnTape 7 = .ok (.aload_n 0, 1) := by decide +kernel
theorem dX11_layOnTape_8 : decode cX11_layOnTape 8 = .ok (.getfield 105, 3) := by decide +kernel
theorem dX11_layOnTape_11 : decode cX11_layOnTape 11 = .ok (.ldc 20, 2) := by decide +kernel
theorem dX11_layOnTape_13 : decode cX11_layOnTape 13 = .ok (.if_icmp .ge 32, 3) := by decide +kernel
theorem dX11_layOnTape_16 : decode cX11_layOnTape 16 = .ok (.aload_n 0, 1) := by decide +kernel
theorem dX11_layOnTape_17 : decode cX11_layOnTape 17 = .ok (.getfield 21, 3) := by decide +kernel
theorem dX11_layOnTape_20 : decode cX11_layOnTape 20 = .ok (.aload_n 0, 1) := by decide +kernel
theorem dX11_layOnTape_21 : decode cX11_layOnTape 21 = .ok (.getfield 105, 3) := by decide +kernel
theorem dX11_layOnTape_24 : decode cX11_layOnTape 24 = .ok (.iload_n 1, 1) := by decide +kernel
theorem dX11_layOnTape_25 : decode cX11_layOnTape 25 = .ok (.iload_n 2, 1) := by decide +kernel
theorem dX11_layOnTape_26 : decode cX11_layOnTape 26 = .ok (.iushr, 1) := by decide +kernel
theorem dX11_layOnTape_27 : decode cX11_layOnTape 27 = .ok (.i2b, 1) := by decide +kernel
theorem dX11_layOnTape_28 : decode cX11_layOnTape 28 = .ok (.bastore, 1) := by decide +kernel
theorem dX11_layOnTape_29 : decode cX11_layOnTape 29 = .ok (.aload_n 0, 1) := by decide +kernel
theorem dX11_layOnTape_30 : decode cX11_layOnTape 30 = .ok (.dup, 1) := by decide +kernel
theorem dX11_layOnTape_31 : decode cX11_layOnTape 31 = .ok (.getfield 105, 3) := by decide +kernel
theorem dX11_layOnTape_34 : decode cX11_layOnTape 34 = .ok (.iconst 1, 1) := by decide +kernel
theorem dX11_layOnTape_35 : decode cX11_layOnTape 35 = .ok (.iadd, 1) := by decide +kernel
theorem dX11_layOnTape_36 : decode cX11_layOnTape 36 = .ok (.putfield 105, 3) := by decide +kernel
theorem dX11_layOnTape_39 : decode cX11_layOnTape 39 = .ok (.iinc 2 (-8), 3) := by decide +kernel
theorem dX11_layOnTape_42 : decode cX11_layOnTape 42 = .ok (.goto (-39), 3) := by decide +kernel
theorem dX11_layOnTape_45 : decode cX11_layOnTape 45 = .ok (.return_, 1) := by decide +kernel
theorem dX11_end_0 : decode cX11_end 0 = .ok (.iload_n 1, 1) := by decide +kernel
theorem dX11_end_1 : decode cX11_end 1 = .ok (.ifCond .lt 9, 3) := by decide +kernel
theorem dX11_end_4 : decode cX11_end 4 = .ok (.iload_n 1, 1) := by decide +kernel
theorem dX11_end_5 : decode cX11_end 5 = .ok (.bipush 20, 2) := by decide +kernel
theorem dX11_end_7 : decode cX11_end 7 = .ok (.if_icmp .le 11, 3) := by decide +kernel
theorem dX11_end_10 : decode cX11_end 10 = .ok (.new 116, 3) := by decide +kernel
theorem dX11_end_13 : decode cX11_end 13 = .ok (.dup, 1) := by decide +kernel
theorem dX11_end_14 : decode cX11_end 14 = .ok (.invokespecial 118, 3) := by decide +kernel
theorem dX11_end_17 : decode cX11_end 17 = .ok (.athrow, 1) := by decide +kernel
theorem dX11_end_18 : decode cX11_end 18 = .ok (.aload_n 0, 1) := by decide +kernel
theorem dX11_end_19 : decode cX11_end 19 = .ok (.getfield 105, 3) := by decide +kernel
theorem dX11_end_22 : decode cX11_end 22 = .ok (.bipush 20, 2) := by decide +kernel
theorem dX11_end_24 : decode cX11_end 24 = .ok (.if_icmp .ge 11, 3) := by decide +kernel
theorem dX11_end_27 : decode cX11_end 27 = .ok (.new 110, 3) := by decide +kernel
theorem dX11_end_30 : decode cX11_end 30 = .ok (.dup, 1) := by decide +kernel
theorem dX11_end_31 : decode cX11_end 31 = .ok (.invokespecial 112, 3) := by decide +kernel
theorem dX11_end_34 : decode cX11_end 34 = .ok (.athrow, 1) := by decide +kernel
theorem dX11_end_35 : decode cX11_end 35 = .ok (.aload_n 0, 1) := by decide +kernel
theorem dX11_end_36 : decode cX11_end 36 = .ok (.dup, 1) := by decide +kernel
theorem dX11_end_37 : decode cX11_end 37 = .ok (.getfield 105, 3) := by decide +kernel
theorem dX11_end_40 : decode cX11_end 40 = .ok (.bipush 20, 2) := by decide +kernel
theorem dX11_end_42 : decode cX11_end 42 = .ok (.iload_n 1, 1) := by decide +kernel
theorem dX11_end_43 : decode cX11_end 43 = .ok (.isub, 1) := by decide +kernel
theorem dX11_end_44 : decode cX11_end 44 = .ok (.isub, 1) := by decide +kernel
theorem dX11_end_45 : decode cX11_end 45 = .ok (.putfield 105, 3) := by decide +kernel
theorem dX11_end_48 : decode cX11_end 48 = .ok (.aload_n 0, 1) := by decide +kernel
theorem dX11_end_49 : decode cX11_end 49 = .ok (.getfield 105, 3) := by decide +kernel
theorem dX11_end_52 : decode cX11_end 52 = .ok (.ireturn, 1) := by decide +kernel
theorem dX11_again_0 : decode cX11_again 0 = .ok (.aload_n 0, 1) := by decide +kernel
theorem dX11_again_1 : decode cX11_again 1 = .ok (.aload_n 0, 1) := by decide +kernel
theorem dX11_again_2 : decode cX11_again 2 = .ok (.getfield 46, 3) := by decide +kernel
theorem dX11_again_5 : decode cX11_again 5 = .ok (.getfield 119, 3) := by decide +kernel
theorem dX11_again_8 : decode cX11_again 8 = .ok (.ldc 20, 2) := by decide +kernel
theorem dX11_again_10 : decode cX11_again 10 = .ok (.invokestatic 122, 3) := by decide +kernel
theorem dX11_again_13 : decode cX11_again 13 = .ok (.putfield 105, 3) := by decide +kernel
theorem dX11_again_16 : decode cX11_again 16 = .ok (.aload_n 0, 1) := by decide +kernel
theorem dX11_again_17 : decode cX11_again 17 = .ok (.getfield 46, 3) := by decide +kernel
theorem dX11_again_20 : decode cX11_again 20 = .ok (.getfield 128, 3) := by decide +kernel
theorem dX11_again_23 : decode cX11_again 23 = .ok (.iconst 0, 1) := by decide +kernel
theorem dX11_again_24 : decode cX11_again 24 = .ok (.aload_n 0, 1) := by decide +kernel
theorem dX11_again_25 : decode cX11_again 25 = .ok (.getfield 21, 3) := by decide +kernel
theorem dX11_again_28 : decode cX11_again 28 = .ok (.iconst 0, 1) := by decide +kernel
theorem dX11_again_29 : decode cX11_again 29 = .ok (.aload_n 0, 1) := by decide +kernel
theorem dX11_again_30 : decode cX11_again 30 = .ok (.getfield 105, 3) := by decide +kernel
theorem dX11_again_33 : decode cX11_again 33 = .ok (.invokestatic 131, 3) := by decide +kernel
theorem dX11_again_36 : decode cX11_again 36 = .ok (.aload_n 0, 1) := by decide +kernel
theorem dX11_again_37 : decode cX11_again 37 = .ok (.getfield 105, 3) := by decide +kernel
theorem dX11_again_40 : decode cX11_again 40 = .ok (.ireturn, 1) := by decide +kernel
theorem dX11_byteAt_0 : decode cX11_byteAt 0 = .ok (.iload_n 1, 1) := by decide +kernel
theorem dX11_byteAt_1 : decode cX11_byteAt 1 = .ok (.ifCond .lt 14, 3) := by decide +kernel
theorem dX11_byteAt_4 : decode cX11_byteAt 4 = .ok (.iload_n 1, 1) := by decide +kernel
theorem dX11_byteAt_5 : decode cX11_byteAt 5 = .ok (.aload_n 0, 1) := by decide +kernel
theorem dX11_byteAt_6 : decode cX11_byteAt 6 = .ok (.getfield 46, 3) := by decide +kernel
theorem dX11_byteAt_9 : decode cX11_byteAt 9 = .ok (.getfield 119, 3) := by decide +kernel
theorem dX11_byteAt_12 : decode cX11_byteAt 12 = .ok (.if_icmp .lt 11, 3) := by decide +kernel
theorem dX11_byteAt_15 : decode cX11_byteAt 15 = .ok (.new 137, 3) := by decide +kernel
theorem dX11_byteAt_18 : decode cX11_byteAt 18 = .ok (.dup, 1) := by decide +kernel
theorem dX11_byteAt_19 : decode cX11_byteAt 19 = .ok (.invokespecial 139, 3) := by decide +kernel
theorem dX11_byteAt_22 : decode cX11_byteAt 22 = .ok (.athrow, 1) := by decide +kernel
theorem dX11_byteAt_23 : decode cX11_byteAt 23 = .ok (.aload_n 0, 1) := by decide +kernel
theorem dX11_byteAt_24 : decode cX11_byteAt 24 = .ok (.getfield 46, 3) := by decide +kernel
theorem dX11_byteAt_27 : decode cX11_byteAt 27 = .ok (.getfield 128, 3) := by decide +kernel
theorem dX11_byteAt_30 : decode cX11_byteAt 30 = .ok (.iload_n 1, 1) := by decide +kernel
theorem dX11_byteAt_31 : decode cX11_byteAt 31 = .ok (.baload, 1) := by decide +kernel
theorem dX11_byteAt_32 : decode cX11_byteAt 32 = .ok (.sipush 255, 3) := by decide +kernel
theorem dX11_byteAt_35 : decode cX11_byteAt 35 = .ok (.iand, 1) := by decide +kernel
theorem dX11_byteAt_36 : decode cX11_byteAt 36 = .ok (.ireturn, 1) := by decide +kernel
theorem dX11_readWords_0 : decode cX11_readWords 0 = .ok (.aload_n 0, 1) := by decide +kernel
theorem dX11_readWords_1 : decode cX11_readWords 1 = .ok (.getfield 105, 3) := by decide +kernel
theorem dX11_readWords_4 : decode cX11_readWords 4 = .ok (.istore_n 2, 1) := by decide +kernel
theorem dX11_readWords_5 : decode cX11_readWords 5 = .ok (.aload_n 0, 1) := by decide +kernel
theorem dX11_readWords_6 : decode cX11_readWords 6 = .ok (.iconst 0, 1) := by decide +kernel
theorem dX11_readWords_7 : decode cX11_readWords 7 = .ok (.putfield 105, 3) := by decide +kernel
theorem dX11_readWords_10 : decode cX11_readWords 10 = .ok (.aload_n 0, 1) := by decide +kernel
theorem dX11_readWords_11 : decode cX11_readWords 11 = .ok (.iload_n 1, 1) := by decide +kernel
theorem dX11_readWords_12 : decode cX11_readWords 12 = .ok (.invokevirtual 140, 3) := by decide +kernel
theorem dX11_readWords_15 : decode cX11_readWords 15 = .ok (.astore_n 3, 1) := by decide +kernel
theorem dX11_readWords_16 : decode cX11_readWords 16 = .ok (.aload_n 0, 1) := by decide +kernel
theorem dX11_readWords_17 : decode cX11_readWords 17 = .ok (.getfield 30, 3) := by decide +kernel
theorem dX11_readWords_20 : decode cX11_readWords 20 = .ok (.aload_n 3, 1) := by decide +kernel
theorem dX11_readWords_21 : decode cX11_readWords 21 = .ok (.iload_n 2, 1) := by decide +kernel
theorem dX11_readWords_22 : decode cX11_readWords 22 = .ok (.invokevirtual 144, 3) := by decide +kernel
theorem dX11_readWords_25 : decode cX11_readWords 25 = .ok (.istore 4, 2) := by decide +kernel
theorem dX11_readWords_27 : decode cX11_readWords 27 = .ok (.aload_n 0, 1) := by decide +kernel
theorem dX11_readWords_28 : decode cX11_readWords 28 = .ok (.aload_n 3, 1) := by decide +kernel
theorem dX11_readWords_29 : decode cX11_readWords 29 = .ok (.iload 4, 2) := by decide +kernel
theorem dX11_readWords_31 : decode cX11_readWords 31 = .ok (.aload_n 0, 1) := by decide +kernel
theorem dX11_readWords_32 : decode cX11_readWords 32 = .ok (.getfield 30, 3) := by decide +kernel
theorem dX11_readWords_35 : decode cX11_readWords 35 = .ok (.getfield 148, 3) := by decide +kernel
theorem dX11_readWords_38 : decode cX11_readWords 38 = .ok (.aload_n 0, 1) := by decide +kernel
theorem dX11_readWords_39 : decode cX11_readWords 39 = .ok (.getfield 30, 3) := by decide +kernel
theorem dX11_readWords_42 : decode cX11_readWords 42 = .ok (.getfield 151, 3) := by decide +kernel
theorem dX11_readWords_45 : decode cX11_readWords 45 = .ok (.invokevirtual 154, 3) := by decide +kernel
theorem dX11_readWords_48 : decode cX11_readWords 48 = .ok (.ireturn, 1) := by decide +kernel
theorem dX11_readBytes_0 : decode cX11_readBytes 0 = .ok (.aload_n 0, 1) := by decide +kernel
theorem dX11_readBytes_1 : decode cX11_readBytes 1 = .ok (.getfield 105, 3) := by decide +kernel
theorem dX11_readBytes_4 : decode cX11_readBytes 4 = .ok (.istore_n 2, 1) := by decide +kernel
theorem dX11_readBytes_5 : decode cX11_readBytes 5 = .ok (.aload_n 0, 1) := by decide +kernel
theorem dX11_readBytes_6 : decode cX11_readBytes 6 = .ok (.iconst 0, 1) := by decide +kernel
theorem dX11_readBytes_7 : decode cX11_readBytes 7 = .ok (.putfield 105, 3) := by decide +kernel
theorem dX11_readBytes_10 : decode cX11_readBytes 10 = .ok (.aload_n 0, 1) := by decide +kernel
theorem dX11_readBytes_11 : decode cX11_readBytes 11 = .ok (.iload_n 1, 1) := by decide +kernel
theorem dX11_readBytes_12 : decode cX11_readBytes 12 = .ok (.invokevirtual 140, 3) := by decide +kernel
theorem dX11_readBytes_15 : decode cX11_readBytes 15 = .ok (.astore_n 3, 1) := by decide +kernel
theorem dX11_readBytes_16 : decode cX11_readBytes 16 = .ok (.aload_n 0, 1) := by decide +kernel
theorem dX11_readBytes_17 : decode cX11_readBytes 17 = .ok (.getfield 37, 3) := by decide +kernel
theorem dX11_readBytes_20 : decode cX11_readBytes 20 = .ok (.aload_n 3, 1) := by decide +kernel
theorem dX11_readBytes_21 : decode cX11_readBytes 21 = .ok (.iload_n 2, 1) := by decide +kernel
theorem dX11_readBytes_22 : decode cX11_readBytes 22 = .ok (.invokevirtual 158, 3) := by decide +kernel
theorem dX11_readBytes_25 : decode cX11_readBytes 25 = .ok (.istore 4, 2) := by decide +kernel
theorem dX11_readBytes_27 : decode cX11_readBytes 27 = .ok (.aload_n 0, 1) := by decide +kernel
theorem dX11_readBytes_28 : decode cX11_readBytes 28 = .ok (.aload_n 3, 1) := by decide +kernel
theorem dX11_readBytes_29 : decode cX11_readBytes 29 = .ok (.iload 4, 2) := by decide +kernel
theorem dX11_readBytes_31 : decode cX11_readBytes 31 = .ok (.aload_n 0, 1) := by decide +kernel
theorem dX11_readBytes_32 : decode cX11_readBytes 32 = .ok (.getfield 37, 3) := by decide +kernel
theorem dX11_readBytes_35 : decode cX11_readBytes 35 = .ok (.getfield 159, 3) := by decide +kernel
theorem dX11_readBytes_38 : decode cX11_readBytes 38 = .ok (.aload_n 0, 1) := by decide +kernel
theorem dX11_readBytes_39 : decode cX11_readBytes 39 = .ok (.getfield 37, 3) := by decide +kernel
theorem dX11_readBytes_42 : decode cX11_readBytes 42 = .ok (.getfield 160, 3) := by decide +kernel
theorem dX11_readBytes_45 : decode cX11_readBytes 45 = .ok (.invokevirtual 154, 3) := by decide +kernel
theorem dX11_readBytes_48 : decode cX11_readBytes 48 = .ok (.ireturn, 1) := by decide +kernel
theorem dX11_kindOrFault_0 : decode cX11_kindOrFault 0 = .ok (.aload_n 0, 1) := by decide +kernel
theorem dX11_kindOrFault_1 : decode cX11_kindOrFault 1 = .ok (.iload_n 3, 1) := by decide +kernel
theorem dX11_kindOrFault_2 : decode cX11_kindOrFault 2 = .ok (.putfield 161, 3) := by decide +kernel
theorem dX11_kindOrFault_5 : decode cX11_kindOrFault 5 = .ok (.aload_n 0, 1) := by decide +kernel
theorem dX11_kindOrFault_6 : decode cX11_kindOrFault 6 = .ok (.iload 4, 2) := by decide +kernel
theorem dX11_kindOrFault_8 : decode cX11_kindOrFault 8 = .ok (.putfield 162, 3) := by decide +kernel
theorem dX11_kindOrFault_11 : decode cX11_kindOrFault 11 = .ok (.iload_n 2, 1) := by decide +kernel
theorem dX11_kindOrFault_12 : decode cX11_kindOrFault 12 = .ok (.ifCond .ne 15, 3) := by decide +kernel
theorem dX11_kindOrFault_15 : decode cX11_kindOrFault 15 = .ok (.aload_n 1, 1) := by decide +kernel
theorem dX11_kindOrFault_16 : decode cX11_kindOrFault 16 = .ok (.invokevirtual 165, 3) := by decide +kernel
theorem dX11_kindOrFault_19 : decode cX11_kindOrFault 19 = .ok (.new 116, 3) := by decide +kernel
theorem dX11_kindOrFault_22 : decode cX11_kindOrFault 22 = .ok (.dup, 1) := by decide +kernel
theorem dX11_kindOrFault_23 : decode cX11_kindOrFault 23 = .ok (.invokespecial 118, 3) := by decide +kernel
theorem dX11_kindOrFault_26 : decode cX11_kindOrFault 26 = .ok (.athrow, 1) := by decide +kernel
theorem dX11_kindOrFault_27 : decode cX11_kindOrFault 27 = .ok (.aload_n 1, 1) := by decide +kernel
theorem dX11_kindOrFault_28 : decode cX11_kindOrFault 28 = .ok (.invokevirtual 168, 3) := by decide +kernel
theorem dX11_kindOrFault_31 : decode cX11_kindOrFault 31 = .ok (.ireturn, 1) := by decide +kernel
theorem dX11_fault_0 : decode cX11_fault 0 = .ok (.iload_n 1, 1) := by decide +kernel
theorem dX11_fault_1 : decode cX11_fault 1 = .ok (.ifCond .lt 8, 3) := by decide +kernel
theorem dX11_fault_4 : decode cX11_fault 4 = .ok (.iload_n 1, 1) := by decide +kernel
theorem dX11_fault_5 : decode cX11_fault 5 = .ok (.iconst 1, 1) := by decide +kernel
theorem dX11_fault_6 : decode cX11_fault 6 = .ok (.if_icmp .le 11, 3) := by decide +kernel
theorem dX11_fault_9 : decode cX11_fault 9 = .ok (.new 137, 3) := by decide +kernel
theorem dX11_fault_12 : decode cX11_fault 12 = .ok (.dup, 1) := by decide +kernel
theorem dX11_fault_13 : decode cX11_fault 13 = .ok (.invokespecial 139, 3) := by decide +kernel
theorem dX11_fault_16 : decode cX11_fault 16 = .ok (.athrow, 1) := by decide +kernel
theorem dX11_fault_17 : decode cX11_fault 17 = .ok (.iload_n 1, 1) := by decide +kernel
theorem dX11_fault_18 : decode cX11_fault 18 = .ok (.ifCond .ne 10, 3) := by decide +kernel
theorem dX11_fault_21 : decode cX11_fault 21 = .ok (.aload_n 0, 1) := by decide +kernel
theorem dX11_fault_22 : decode cX11_fault 22 = .ok (.getfield 161, 3) := by decide +kernel
theorem dX11_fault_25 : decode cX11_fault 25 = .ok (.goto 7, 3) := by decide +kernel
theorem dX11_fault_28 : decode cX11_fault 28 = .ok (.aload_n 0, 1) := by decide +kernel
theorem dX11_fault_29 : decode cX11_fault 29 = .ok (.getfield 162, 3) := by decide +kernel
theorem dX11_fault_32 : decode cX11_fault 32 = .ok (.ireturn, 1) := by decide +kernel
theorem dX11_writeWords_0 : decode cX11_writeWords 0 = .ok (.aload_n 0, 1) := by decide +kernel
theorem dX11_writeWords_1 : decode cX11_writeWords 1 = .ok (.iload_n 1, 1) := by decide +kernel
theorem dX11_writeWords_2 : decode cX11_writeWords 2 = .ok (.invokevirtual 140, 3) := by decide +kernel
theorem dX11_writeWords_5 : decode cX11_writeWords 5 = .ok (.astore_n 2, 1) := by decide +kernel
theorem dX11_writeWords_6 : decode cX11_writeWords 6 = .ok (.aload_n 2, 1) := by decide +kernel
theorem dX11_writeWords_7 : decode cX11_writeWords 7 = .ok (.invokestatic 172, 3) := by decide +kernel
theorem dX11_writeWords_10 : decode cX11_writeWords 10 = .ok (.aload_n 0, 1) := by decide +kernel
theorem dX11_writeWords_11 : decode cX11_writeWords 11 = .ok (.getfield 46, 3) := by decide +kernel
theorem dX11_writeWords_14 : decode cX11_writeWords 14 = .ok (.aload_n 2, 1) := by decide +kernel
theorem dX11_writeWords_15 : decode cX11_writeWords 15 = .ok (.invokevirtual 176, 3) := by decide +kernel
theorem dX11_writeWords_18 : decode cX11_writeWords 18 = .ok (.ireturn, 1) := by decide +kernel
theorem dX11_writeBytes_0 : decode cX11_writeBytes 0 = .ok (.aload_n 0, 1) := by decide +kernel
theorem dX11_writeBytes_1 : decode cX11_writeBytes 1 = .ok (.iload_n 1, 1) := by decide +kernel
theorem dX11_writeBytes_2 : decode cX11_writeBytes 2 = .ok (.invokevirtual 140, 3) := by decide +kernel
theorem dX11_writeBytes_5 : decode cX11_writeBytes 5 = .ok (.astore_n 3, 1) := by decide +kernel
theorem dX11_writeBytes_6 : decode cX11_writeBytes 6 = .ok (.aload_n 3, 1) := by decide +kernel
theorem dX11_writeBytes_7 : decode cX11_writeBytes 7 = .ok (.invokestatic 172, 3) := by decide +kernel
theorem dX11_writeBytes_10 : decode cX11_writeBytes 10 = .ok (.iload_n 2, 1) := by decide +kernel
theorem dX11_writeBytes_11 : decode cX11_writeBytes 11 = .ok (.ifCond .lt 8, 3) := by decide +kernel
theorem dX11_writeBytes_14 : decode cX11_writeBytes 14 = .ok (.iload_n 2, 1) := by decide +kernel
theorem dX11_writeBytes_15 : decode cX11_writeBytes 15 = .ok (.iconst 1, 1) := by decide +kernel
theorem dX11_writeBytes_16 : decode cX11_writeBytes 16 = .ok (.if_icmp .le 11, 3) := by decide +kernel
theorem dX11_writeBytes_19 : decode cX11_writeBytes 19 = .ok (.new 116, 3) := by decide +kernel
theorem dX11_writeBytes_22 : decode cX11_writeBytes 22 = .ok (.dup, 1) := by decide +kernel
theorem dX11_writeBytes_23 : decode cX11_writeBytes 23 = .ok (.invokespecial 118, 3) := by decide +kernel
theorem dX11_writeBytes_26 : decode cX11_writeBytes 26 = .ok (.athrow, 1) := by decide +kernel
theorem dX11_writeBytes_27 : decode cX11_writeBytes 27 = .ok (.aload_n 0, 1) := by decide +kernel
theorem dX11_writeBytes_28 : decode cX11_writeBytes 28 = .ok (.getfield 46, 3) := by decide +kernel
theorem dX11_writeBytes_31 : decode cX11_writeBytes 31 = .ok (.aload_n 3, 1) := by decide +kernel
theorem dX11_writeBytes_32 : decode cX11_writeBytes 32 = .ok (.iload_n 2, 1) := by decide +kernel
theorem dX11_writeBytes_33 : decode cX11_writeBytes 33 = .ok (.invokevirtual 180, 3) := by decide +kernel
theorem dX11_writeBytes_36 : decode cX11_writeBytes 36 = .ok (.ireturn, 1) := by decide +kernel
theorem dX11_slotNumbered_0 : decode cX11_slotNumbered 0 = .ok (.iload_n 1, 1) := by decide +kernel
theorem dX11_slotNumbered_1 : decode cX11_slotNumbered 1 = .ok (.ifCond .lt 9, 3) := by decide +kernel
theorem dX11_slotNumbered_4 : decode cX11_slotNumbered 4 = .ok (.iload_n 1, 1) := by decide +kernel
theorem dX11_slotNumbered_5 : decode cX11_slotNumbered 5 = .ok (.bipush 32, 2) := by decide +kernel
theorem dX11_slotNumbered_7 : decode cX11_slotNumbered 7 = .ok (.if_icmp .lt 11, 3) := by decide +kernel
theorem dX11_slotNumbered_10 : decode cX11_slotNumbered 10 = .ok (.new 137, 3) := by decide +kernel
theorem dX11_slotNumbered_13 : decode cX11_slotNumbered 13 = .ok (.dup, 1) := by decide +kernel
theorem dX11_slotNumbered_14 : decode cX11_slotNumbered 14 = .ok (.invokespecial 139, 3) := by decide +kernel
theorem dX11_slotNumbered_17 : decode cX11_slotNumbered 17 = .ok (.athrow, 1) := by decide +kernel
theorem dX11_slotNumbered_18 : decode cX11_slotNumbered 18 = .ok (.aload_n 0, 1) := by decide +kernel
theorem dX11_slotNumbered_19 : decode cX11_slotNumbered 19 = .ok (.getfield 11, 3) := by decide +kernel
theorem dX11_slotNumbered_22 : decode cX11_slotNumbered 22 = .ok (.iload_n 1, 1) := by decide +kernel
theorem dX11_slotNumbered_23 : decode cX11_slotNumbered 23 = .ok (.aaload, 1) := by decide +kernel
theorem dX11_slotNumbered_24 : decode cX11_slotNumbered 24 = .ok (.areturn, 1) := by decide +kernel
theorem dX11_mustBeThere_0 : decode cX11_mustBeThere 0 = .ok (.aload_n 0, 1) := by decide +kernel
theorem dX11_mustBeThere_1 : decode cX11_mustBeThere 1 = .ok (.invokevirtual 184, 3) := by decide +kernel
theorem dX11_mustBeThere_4 : decode cX11_mustBeThere 4 = .ok (.ifCond .ne 11, 3) := by decide +kernel
theorem dX11_mustBeThere_7 : decode cX11_mustBeThere 7 = .ok (.new 110, 3) := by decide +kernel
theorem dX11_mustBeThere_10 : decode cX11_mustBeThere 10 = .ok (.dup, 1) := by decide +kernel
theorem dX11_mustBeThere_11 : decode cX11_mustBeThere 11 = .ok (.invokespecial 112, 3) := by decide +kernel
theorem dX11_mustBeThere_14 : decode cX11_mustBeThere 14 = .ok (.athrow, 1) := by decide +kernel
theorem dX11_mustBeThere_15 : decode cX11_mustBeThere 15 = .ok (.return_, 1) := by decide +kernel
theorem dX11_copy_0 : decode cX11_copy 0 = .ok (.aload_n 0, 1) := by decide +kernel
theorem dX11_copy_1 : decode cX11_copy 1 = .ok (.iload_n 1, 1) := by decide +kernel
theorem dX11_copy_2 : decode cX11_copy 2 = .ok (.invokevirtual 140, 3) := by decide +kernel
theorem dX11_copy_5 : decode cX11_copy 5 = .ok (.astore_n 3, 1) := by decide +kernel
theorem dX11_copy_6 : decode cX11_copy 6 = .ok (.aload_n 0, 1) := by decide +kernel
theorem dX11_copy_7 : decode cX11_copy 7 = .ok (.iload_n 2, 1) := by decide +kernel
theorem dX11_copy_8 : decode cX11_copy 8 = .ok (.invokevirtual 140, 3) := by decide +kernel
theorem dX11_copy_11 : decode cX11_copy 11 = .ok (.astore 4, 2) := by decide +kernel
theorem dX11_copy_13 : decode cX11_copy 13 = .ok (.aload_n 3, 1) := by decide +kernel
theorem dX11_copy_14 : decode cX11_copy 14 = .ok (.invokestatic 172, 3) := by decide +kernel
theorem dX11_copy_17 : decode cX11_copy 17 = .ok (.aload 4, 2) := by decide +kernel
theorem dX11_copy_19 : decode cX11_copy 19 = .ok (.aload_n 3, 1) := by decide +kernel
theorem dX11_copy_20 : decode cX11_copy 20 = .ok (.invokevirtual 188, 3) := by decide +kernel
theorem dX11_copy_23 : decode cX11_copy 23 = .ok (.aload 4, 2) := by decide +kernel
theorem dX11_copy_25 : decode cX11_copy 25 = .ok (.invokevirtual 168, 3) := by decide +kernel
theorem dX11_copy_28 : decode cX11_copy 28 = .ok (.ireturn, 1) := by decide +kernel
theorem dX11_drop_0 : decode cX11_drop 0 = .ok (.aload_n 0, 1) := by decide +kernel
theorem dX11_drop_1 : decode cX11_drop 1 = .ok (.iload_n 1, 1) := by decide +kernel
theorem dX11_drop_2 : decode cX11_drop 2 = .ok (.invokevirtual 140, 3) := by decide +kernel
theorem dX11_drop_5 : decode cX11_drop 5 = .ok (.astore_n 2, 1) := by decide +kernel
theorem dX11_drop_6 : decode cX11_drop 6 = .ok (.aload_n 2, 1) := by decide +kernel
theorem dX11_drop_7 : decode cX11_drop 7 = .ok (.invokevirtual 184, 3) := by decide +kernel
theorem dX11_drop_10 : decode cX11_drop 10 = .ok (.istore_n 3, 1) := by decide +kernel
theorem dX11_drop_11 : decode cX11_drop 11 = .ok (.aload_n 2, 1) := by decide +kernel
theorem dX11_drop_12 : decode cX11_drop 12 = .ok (.invokevirtual 165, 3) := by decide +kernel
theorem dX11_drop_15 : decode cX11_drop 15 = .ok (.iload_n 3, 1) := by decide +kernel
theorem dX11_drop_16 : decode cX11_drop 16 = .ok (.ireturn, 1) := by decide +kernel
theorem dX11_same_0 : decode cX11_same 0 = .ok (.aload_n 0, 1) := by decide +kernel
theorem dX11_same_1 : decode cX11_same 1 = .ok (.iload_n 1, 1) := by decide +kernel
theorem dX11_same_2 : decode cX11_same 2 = .ok (.invokevirtual 140, 3) := by decide +kernel
theorem dX11_same_5 : decode cX11_same 5 = .ok (.astore_n 3, 1) := by decide +kernel
theorem dX11_same_6 : decode cX11_same 6 = .ok (.aload_n 0, 1) := by decide +kernel
theorem dX11_same_7 : decode cX11_same 7 = .ok (.iload_n 2, 1) := by decide +kernel
theorem dX11_same_8 : decode cX11_same 8 = .ok (.invokevirtual 140, 3) := by decide +kernel
theorem dX11_same_11 : decode cX11_same 11 = .ok (.astore 4, 2) := by decide +kernel
theorem dX11_same_13 : decode cX11_same 13 = .ok (.aload_n 3, 1) := by decide +kernel
theorem dX11_same_14 : decode cX11_same 14 = .ok (.aload 4, 2) := by decide +kernel
theorem dX11_same_16 : decode cX11_same 16 = .ok (.invokevirtual 191, 3) := by decide +kernel
theorem dX11_same_19 : decode cX11_same 19 = .ok (.ireturn, 1) := by decide +kernel
theorem dX11_plan_0 : decode cX11_plan 0 = .ok (.aload_n 0, 1) := by decide +kernel
theorem dX11_plan_1 : decode cX11_plan 1 = .ok (.iload_n 1, 1) := by decide +kernel
theorem dX11_plan_2 : decode cX11_plan 2 = .ok (.invokevirtual 140, 3) := by decide +kernel
theorem dX11_plan_5 : decode cX11_plan 5 = .ok (.astore_n 3, 1) := by decide +kernel
theorem dX11_plan_6 : decode cX11_plan 6 = .ok (.iload_n 2, 1) := by decide +kernel
theorem dX11_plan_7 : decode cX11_plan 7 = .ok (.ifCond .lt 11, 3) := by decide +kernel
theorem dX11_plan_10 : decode cX11_plan 10 = .ok (.iload_n 2, 1) := by decide +kernel
theorem dX11_plan_11 : decode cX11_plan 11 = .ok (.aload_n 3, 1) := by decide +kernel
theorem dX11_plan_12 : decode cX11_plan 12 = .ok (.getfield 195, 3) := by decide +kernel
theorem dX11_plan_15 : decode cX11_plan 15 = .ok (.if_icmp .lt 11, 3) := by decide +kernel
theorem dX11_plan_18 : decode cX11_plan 18 = .ok (.new 137, 3) := by decide +kernel
theorem dX11_plan_21 : decode cX11_plan 21 = .ok (.dup, 1) := by decide +kernel
theorem dX11_plan_22 : decode cX11_plan 22 = .ok (.invokespecial 139, 3) := by decide +kernel
theorem dX11_plan_25 : decode cX11_plan 25 = .ok (.athrow, 1) := by decide +kernel
theorem dX11_plan_26 : decode cX11_plan 26 = .ok (.aload_n 3, 1) := by decide +kernel
theorem dX11_plan_27 : decode cX11_plan 27 = .ok (.getfield 198, 3) := by decide +kernel
theorem dX11_plan_30 : decode cX11_plan 30 = .ok (.iload_n 2, 1) := by decide +kernel
theorem dX11_plan_31 : decode cX11_plan 31 = .ok (.iaload, 1) := by decide +kernel
theorem dX11_plan_32 : decode cX11_plan 32 = .ok (.ireturn, 1) := by decide +kernel
theorem dX11_ordinate_0 : decode cX11_ordinate 0 = .ok (.aload_n 0, 1) := by decide +kernel
theorem dX11_ordinate_1 : decode cX11_ordinate 1 = .ok (.iload_n 1, 1) := by decide +kernel
theorem dX11_ordinate_2 : decode cX11_ordinate 2 = .ok (.invokevirtual 140, 3) := by decide +kernel
theorem dX11_ordinate_5 : decode cX11_ordinate 5 = .ok (.astore 4, 2) := by decide +kernel
theorem dX11_ordinate_7 : decode cX11_ordinate 7 = .ok (.iload_n 2, 1) := by decide +kernel
theorem dX11_ordinate_8 : decode cX11_ordinate 8 = .ok (.ifCond .lt 21, 3) := by decide +kernel
theorem dX11_ordinate_11 : decode cX11_ordinate 11 = .ok (.iload_n 2, 1) := by decide +kernel
theorem dX11_ordinate_12 : decode cX11_ordinate 12 = .ok (.aload 4, 2) := by decide +kernel
theorem dX11_ordinate_14 : decode cX11_ordinate 14 = .ok (.getfield 201, 3) := by decide +kernel
theorem dX11_ordinate_17 : decode cX11_ordinate 17 = .ok (.if_icmp .ge 12, 3) := by decide +kernel
theorem dX11_ordinate_20 : decode cX11_ordinate 20 = .ok (.iload_n 3, 1) := by decide +kernel
theorem dX11_ordinate_21 : decode cX11_ordinate 21 = .ok (.ifCond .lt 8, 3) := by decide +kernel
theorem dX11_ordinate_24 : decode cX11_ordinate 24 = .ok (.iload_n 3, 1) := by decide +kernel
theorem dX11_ordinate_25 : decode cX11_ordinate 25 = .ok (.iconst 1, 1) := by decide +kernel
theorem dX11_ordinate_26 : decode cX11_ordinate 26 = .ok (.if_icmp .le 11, 3) := by decide +kernel
theorem dX11_ordinate_29 : decode cX11_ordinate 29 = .ok (.new 137, 3) := by decide +kernel
theorem dX11_ordinate_32 : decode cX11_ordinate 32 = .ok (.dup, 1) := by decide +kernel
theorem dX11_ordinate_33 : decode cX11_ordinate 33 = .ok (.invokespecial 139, 3) := by decide +kernel
theorem dX11_ordinate_36 : decode cX11_ordinate 36 = .ok (.athrow, 1) := by decide +kernel
theorem dX11_ordinate_37 : decode cX11_ordinate 37 = .ok (.iload_n 3, 1) := by decide +kernel
theorem dX11_ordinate_38 : decode cX11_ordinate 38 = .ok (.ifCond .ne 13, 3) := by decide +kernel
theorem dX11_ordinate_41 : decode cX11_ordinate 41 = .ok (.aload 4, 2) := by decide +kernel
theorem dX11_ordinate_43 : decode cX11_ordinate 43 = .ok (.getfield 204, 3) := by decide +kernel
theorem dX11_ordinate_46 : decode cX11_ordinate 46 = .ok (.iload_n 2, 1) := by decide +kernel
theorem dX11_ordinate_47 : decode cX11_ordinate 47 = .ok (.iaload, 1) := by decide +kernel
theorem dX11_ordinate_48 : decode cX11_ordinate 48 = .ok (.goto 10, 3) := by decide +kernel
theorem dX11_ordinate_51 : decode cX11_ordinate 51 = .ok (.aload 4, 2) := by decide +kernel
theorem dX11_ordinate_53 : decode cX11_ordinate 53 = .ok (.getfield 207, 3) := by decide +kernel
theorem dX11_ordinate_56 : decode cX11_ordinate 56 = .ok (.iload_n 2, 1) := by decide +kernel
theorem dX11_ordinate_57 : decode cX11_ordinate 57 = .ok (.iaload, 1) := by decide +kernel
theorem dX11_ordinate_58 : decode cX11_ordinate 58 = .ok (.ireturn, 1) := by decide +kernel
theorem dX11_count_0 : decode cX11_count 0 = .ok (.aload_n 0, 1) := by decide +kernel
theorem dX11_count_1 : decode cX11_count 1 = .ok (.iload_n 1, 1) := by decide +kernel
theorem dX11_count_2 : decode cX11_count 2 = .ok (.invokevirtual 140, 3) := by decide +kernel
theorem dX11_count_5 : decode cX11_count 5 = .ok (.astore_n 3, 1) := by decide +kernel
theorem dX11_count_6 : decode cX11_count 6 = .ok (.iload_n 2, 1) := by decide +kernel
theorem dX11_count_7 : decode cX11_count 7 = .ok (.tableswitch 70 0 5 #[37, 42, 47, 52, 60, 65], 37) := by decide +kernel
theorem dX11_count_44 : decode cX11_count 44 = .ok (.aload_n 3, 1) := by decide +kernel
theorem dX11_count_45 : decode cX11_count 45 = .ok (.getfield 195, 3) := by decide +kernel
theorem dX11_count_48 : decode cX11_count 48 = .ok (.ireturn, 1) := by decide +kernel
theorem dX11_count_49 : decode cX11_count 49 = .ok (.aload_n 3, 1) := by decide +kernel
theorem dX11_count_50 : decode cX11_count 50 = .ok (.getfield 201, 3) := by decide +kernel
theorem dX11_count_53 : decode cX11_count 53 = .ok (.ireturn, 1) := by decide +kernel
theorem dX11_count_54 : decode cX11_count 54 = .ok (.aload_n 0, 1) := by decide +kernel
theorem dX11_count_55 : decode cX11_count 55 = .ok (.getfield 105, 3) := by decide +kernel
theorem dX11_count_58 : decode cX11_count 58 = .ok (.ireturn, 1) := by decide +kernel
theorem dX11_count_59 : decode cX11_count 59 = .ok (.aload_n 0, 1) := by decide +kernel
theorem dX11_count_60 : decode cX11_count 60 = .ok (.getfield 46, 3) := by decide +kernel
theorem dX11_count_63 : decode cX11_count 63 = .ok (.getfield 119, 3) := by decide +kernel
theorem dX11_count_66 : decode cX11_count 66 = .ok (.ireturn, 1) := by decide +kernel
theorem dX11_count_67 : decode cX11_count 67 = .ok (.aload_n 0, 1) := by decide +kernel
theorem dX11_count_68 : decode cX11_count 68 = .ok (.invokevirtual 210, 3) := by decide +kernel
theorem dX11_count_71 : decode cX11_count 71 = .ok (.ireturn, 1) := by decide +kernel
theorem dX11_count_72 : decode cX11_count 72 = .ok (.aload_n 0, 1) := by decide +kernel
theorem dX11_count_73 : decode cX11_count 73 = .ok (.getfield 213, 3) := by decide +kernel
theorem dX11_count_76 : decode cX11_count 76 = .ok (.ireturn, 1) := by decide +kernel
theorem dX11_count_77 : decode cX11_count 77 = .ok (.new 137, 3) := by decide +kernel
theorem dX11_count_80 : decode cX11_count 80 = .ok (.dup, 1) := by decide +kernel
theorem dX11_count_81 : decode cX11_count 81 = .ok (.invokespecial 139, 3) := by decide +kernel
theorem dX11_count_84 : decode cX11_count 84 = .ok (.athrow, 1) := by decide +kernel
theorem dX11_slotsWithShapes_0 : decode cX11_slotsWithShapes 0 = .ok (.iconst 0, 1) := by decide +kernel
theorem dX11_slotsWithShapes_1 : decode cX11_slotsWithShapes 1 = .ok (.istore_n 1, 1) := by decide +kernel
theorem dX11_slotsWithShapes_2 : decode cX11_slotsWithShapes 2 = .ok (.iconst 0, 1) := by decide +kernel
theorem dX11_slotsWithShapes_3 : decode cX11_slotsWithShapes 3 = .ok (.istore_n 2, 1) := by decide +kernel
theorem dX11_slotsWithShapes_4 : decode cX11_slotsWithShapes 4 = .ok (.iload_n 2, 1) := by decide +kernel
theorem dX11_slotsWithShapes_5 : decode cX11_slotsWithShapes 5 = .ok (.bipush 32, 2) := by decide +kernel
theorem dX11_slotsWithShapes_7 : decode cX11_slotsWithShapes 7 = .ok (.if_icmp .ge 24, 3) := by decide +kernel
theorem dX11_slotsWithShapes_10 : decode cX11_slotsWithShapes 10 = .ok (.aload_n 0, 1) := by decide +kernel
theorem dX11_slotsWithShapes_11 : decode cX11_slotsWithShapes 11 = .ok (.getfield 11, 3) := by decide +kernel
theorem dX11_slotsWithShapes_14 : decode cX11_slotsWithShapes 14 = .ok (.iload_n 2, 1) := by decide +kernel
theorem dX11_slotsWithShapes_15 : decode cX11_slotsWithShapes 15 = .ok (.aaload, 1) := by decide +kernel
theorem dX11_slotsWithShapes_16 : decode cX11_slotsWithShapes 16 = .ok (.invokevirtual 184, 3) := by decide +kernel
theorem dX11_slotsWithShapes_19 : decode cX11_slotsWithShapes 19 = .ok (.ifCond .eq 6, 3) := by decide +kernel
theorem dX11_slotsWithShapes_22 : decode cX11_slotsWithShapes 22 = .ok (.iinc 1 1, 3) := by decide +kernel
theorem dX11_slotsWithShapes_25 : decode cX11_slotsWithShapes 25 = .ok (.iinc 2 1, 3) := by decide +kernel
theorem dX11_slotsWithShapes_28 : decode cX11_slotsWithShapes 28 = .ok (.goto (-24), 3) := by decide +kernel
theorem dX11_slotsWithShapes_31 : decode cX11_slotsWithShapes 31 = .ok (.iload_n 1, 1) := by decide +kernel
theorem dX11_slotsWithShapes_32 : decode cX11_slotsWithShapes 32 = .ok (.ireturn, 1) := by decide +kernel
theorem dX11_judge_0 : decode cX11_judge 0 = .ok (.aload_n 0, 1) := by decide +kernel
theorem dX11_judge_1 : decode cX11_judge 1 = .ok (.iload_n 1, 1) := by decide +kernel
theorem dX11_judge_2 : decode cX11_judge 2 = .ok (.invokevirtual 140, 3) := by decide +kernel
theorem dX11_judge_5 : decode cX11_judge 5 = .ok (.astore_n 2, 1) := by decide +kernel
theorem dX11_judge_6 : decode cX11_judge 6 = .ok (.aload_n 2, 1) := by decide +kernel
theorem dX11_judge_7 : decode cX11_judge 7 = .ok (.invokestatic 172, 3) := by decide +kernel
theorem dX11_judge_10 : decode cX11_judge 10 = .ok (.aload_n 0, 1) := by decide +kernel
theorem dX11_judge_11 : decode cX11_judge 11 = .ok (.getfield 53, 3) := by decide +kernel
theorem dX11_judge_14 : decode cX11_judge 14 = .ok (.aload_n 2, 1) := by decide +kernel
theorem dX11_judge_15 : decode cX11_judge 15 = .ok (.invokevirtual 216, 3) := by decide +kernel
theorem dX11_judge_18 : decode cX11_judge 18 = .ok (.ireturn, 1) := by decide +kernel
theorem dX11_place_0 : decode cX11_place 0 = .ok (.iload_n 1, 1) := by decide +kernel
theorem dX11_place_1 : decode cX11_place 1 = .ok (.ifCond .lt 9, 3) := by decide +kernel
theorem dX11_place_4 : decode cX11_place 4 = .ok (.iload_n 1, 1) := by decide +kernel
theorem dX11_place_5 : decode cX11_place 5 = .ok (.bipush 7, 2) := by decide +kernel
theorem dX11_place_7 : decode cX11_place 7 = .ok (.if_icmp .lt 11, 3) := by decide +kernel
theorem dX11_place_10 : decode cX11_place 10 = .ok (.new 137, 3) := by decide +kernel
theorem dX11_place_13 : decode cX11_place 13 = .ok (.dup, 1) := by decide +kernel
theorem dX11_place_14 : decode cX11_place 14 = .ok (.invokespecial 139, 3) := by decide +kernel
theorem dX11_place_17 : decode cX11_place 17 = .ok (.athrow, 1) := by decide +kernel
theorem dX11_place_18 : decode cX11_place 18 = .ok (.aload_n 0, 1) := by decide +kernel
theorem dX11_place_19 : decode cX11_place 19 = .ok (.getfield 53, 3) := by decide +kernel
theorem dX11_place_22 : decode cX11_place 22 = .ok (.getfield 219, 3) := by decide +kernel
theorem dX11_place_25 : decode cX11_place 25 = .ok (.iload_n 1, 1) := by decide +kernel
theorem dX11_place_26 : decode cX11_place 26 = .ok (.iaload, 1) := by decide +kernel
theorem dX11_place_27 : decode cX11_place 27 = .ok (.ireturn, 1) := by decide +kernel
theorem dX11_overlay_0 : decode cX11_overlay 0 = .ok (.aload_n 0, 1) := by decide +kernel
theorem dX11_overlay_1 : decode cX11_overlay 1 = .ok (.iload_n 2, 1) := by decide +kernel
theorem dX11_overlay_2 : decode cX11_overlay 2 = .ok (.invokevirtual 140, 3) := by decide +kernel
theorem dX11_overlay_5 : decode cX11_overlay 5 = .ok (.astore 5, 2) := by decide +kernel
theorem dX11_overlay_7 : decode cX11_overlay 7 = .ok (.aload_n 0, 1) := by decide +kernel
theorem dX11_overlay_8 : decode cX11_overlay 8 = .ok (.iload_n 3, 1) := by decide +kernel
theorem dX11_overlay_9 : decode cX11_overlay 9 = .ok (.invokevirtual 140, 3) := by decide +kernel
theorem dX11_overlay_12 : decode cX11_overlay 12 = .ok (.astore 6, 2) := by decide +kernel
theorem dX11_overlay_14 : decode cX11_overlay 14 = .ok (.aload_n 0, 1) := by decide +kernel
theorem dX11_overlay_15 : decode cX11_overlay 15 = .ok (.iload 4, 2) := by decide +kernel
theorem dX11_overlay_17 : decode cX11_overlay 17 = .ok (.invokevirtual 140, 3) := by decide +kernel
theorem dX11_overlay_20 : decode cX11_overlay 20 = .ok (.astore 7, 2) := by decide +kernel
theorem dX11_overlay_22 : decode cX11_overlay 22 = .ok (.aload 5, 2) := by decide +kernel
theorem dX11_overlay_24 : decode cX11_overlay 24 = .ok (.invokestatic 172, 3) := by decide +kernel
theorem dX11_overlay_27 : decode cX11_overlay 27 = .ok (.aload 6, 2) := by decide +kernel
theorem dX11_overlay_29 : decode cX11_overlay 29 = .ok (.invokestatic 172, 3) := by decide +kernel
theorem dX11_overlay_32 : decode cX11_overlay 32 = .ok (.iload_n 1, 1) := by decide +kernel
theorem dX11_overlay_33 : decode cX11_overlay 33 = .ok (.ifCond .lt 24, 3) := by decide +kernel
theorem dX11_overlay_36 : decode cX11_overlay 36 = .ok (.iload_n 1, 1) := by decide +kernel
theorem dX11_overlay_37 : decode cX11_overlay 37 = .ok (.iconst 5, 1) := by decide +kernel
theorem dX11_overlay_38 : decode cX11_overlay 38 = .ok (.if_icmp .ge 19, 3) := by decide +kernel
theorem dX11_overlay_41 : decode cX11_overlay 41 = .ok (.aload 5, 2) := by decide +kernel
theorem dX11_overlay_43 : decode cX11_overlay 43 = .ok (.invokestatic 221, 3) := by decide +kernel
theorem dX11_overlay_46 : decode cX11_overlay 46 = .ok (.ifCond .eq 11, 3) := by decide +kernel
theorem dX11_overlay_49 : decode cX11_overlay 49 = .ok (.aload 6, 2) := by decide +kernel
theorem dX11_overlay_51 : decode cX11_overlay 51 = .ok (.invokestatic 221, 3) := by decide +kernel
theorem dX11_overlay_54 : decode cX11_overlay 54 = .ok (.ifCond .ne 11, 3) := by decide +kernel
theorem dX11_overlay_57 : decode cX11_overlay 57 = .ok (.new 116, 3) := by decide +kernel
theorem dX11_overlay_60 : decode cX11_overlay 60 = .ok (.dup, 1) := by decide +kernel
theorem dX11_overlay_61 : decode cX11_overlay 61 = .ok (.invokespecial 118, 3) := by decide +kernel
theorem dX11_overlay_64 : decode cX11_overlay 64 = .ok (.athrow, 1) := by decide +kernel
theorem dX11_overlay_65 : decode cX11_overlay 65 = .ok (.aload_n 0, 1) := by decide +kernel
theorem dX11_overlay_66 : decode cX11_overlay 66 = .ok (.getfield 60, 3) := by decide +kernel
theorem dX11_overlay_69 : decode cX11_overlay 69 = .ok (.aload 5, 2) := by decide +kernel
theorem dX11_overlay_71 : decode cX11_overlay 71 = .ok (.aload 6, 2) := by decide +kernel
theorem dX11_overlay_73 : decode cX11_overlay 73 = .ok (.invokevirtual 224, 3) := by decide +kernel
theorem dX11_overlay_76 : decode cX11_overlay 76 = .ok (.ifCond .eq 18, 3) := by decide +kernel
theorem dX11_overlay_79 : decode cX11_overlay 79 = .ok (.aload_n 0, 1) := by decide +kernel
theorem dX11_overlay_80 : decode cX11_overlay 80 = .ok (.getfield 69, 3) := by decide +kernel
theorem dX11_overlay_83 : decode cX11_overlay 83 = .ok (.iload_n 1, 1) := by decide +kernel
theorem dX11_overlay_84 : decode cX11_overlay 84 = .ok (.aload_n 0, 1) := by decide +kernel
theorem dX11_overlay_85 : decode cX11_overlay 85 = .ok (.getfield 16, 3) := by decide +kernel
theorem dX11_overlay_88 : decode cX11_overlay 88 = .ok (.invokevirtual 228, 3) := by decide +kernel
theorem dX11_overlay_91 : decode cX11_overlay 91 = .ok (.ifCond .ne 11, 3) := by decide +kernel
theorem dX11_overlay_94 : decode cX11_overlay 94 = .ok (.new 232, 3) := by decide +kernel
theorem dX11_overlay_97 : decode cX11_overlay 97 = .ok (.dup, 1) := by decide +kernel
theorem dX11_overlay_98 : decode cX11_overlay 98 = .ok (.invokespecial 234, 3) := by decide +kernel
theorem dX11_overlay_101 : decode cX11_overlay 101 = .ok (.athrow, 1) := by decide +kernel
theorem dX11_overlay_102 : decode cX11_overlay 102 = .ok (.aload 7, 2) := by decide +kernel
theorem dX11_overlay_104 : decode cX11_overlay 104 = .ok (.aload_n 0, 1) := by decide +kernel
theorem dX11_overlay_105 : decode cX11_overlay 105 = .ok (.getfield 16, 3) := by decide +kernel
theorem dX11_overlay_108 : decode cX11_overlay 108 = .ok (.invokevirtual 188, 3) := by decide +kernel
theorem dX11_overlay_111 : decode cX11_overlay 111 = .ok (.aload 7, 2) := by decide +kernel
theorem dX11_overlay_113 : decode cX11_overlay 113 = .ok (.getfield 198, 3) := by decide +kernel
theorem dX11_overlay_116 : decode cX11_overlay 116 = .ok (.iconst 1, 1) := by decide +kernel
theorem dX11_overlay_117 : decode cX11_overlay 117 = .ok (.iaload, 1) := by decide +kernel
theorem dX11_overlay_118 : decode cX11_overlay 118 = .ok (.ireturn, 1) := by decide +kernel
theorem dX11_canBeLaidOver_0 : decode cX11_canBeLaidOver 0 = .ok (.aload_n 0, 1) := by decide +kernel
theorem dX11_canBeLaidOver_1 : decode cX11_canBeLaidOver 1 = .ok (.invokevirtual 168, 3) := by decide +kernel
theorem dX11_canBeLaidOver_4 : decode cX11_canBeLaidOver 4 = .ok (.istore_n 1, 1) := by decide +kernel
theorem dX11_canBeLaidOver_5 : decode cX11_canBeLaidOver 5 = .ok (.iload_n 1, 1) := by decide +kernel
theorem dX11_canBeLaidOver_6 : decode cX11_canBeLaidOver 6 = .ok (.iconst 3, 1) := by decide +kernel
theorem dX11_canBeLaidOver_7 : decode cX11_canBeLaidOver 7 = .ok (.if_icmp .eq 9, 3) := by decide +kernel
theorem dX11_canBeLaidOver_10 : decode cX11_canBeLaidOver 10 = .ok (.iload_n 1, 1) := by decide +kernel
theorem dX11_canBeLaidOver_11 : decode cX11_canBeLaidOver 11 = .ok (.bipush 6, 2) := by decide +kernel
theorem dX11_canBeLaidOver_13 : decode cX11_canBeLaidOver 13 = .ok (.if_icmp .ne 12, 3) := by decide +kernel
theorem dX11_canBeLaidOver_16 : decode cX11_canBeLaidOver 16 = .ok (.aload_n 0, 1) := by decide +kernel
theorem dX11_canBeLaidOver_17 : decode cX11_canBeLaidOver 17 = .ok (.ldc 235, 2) := by decide +kernel
theorem dX11_canBeLaidOver_19 : decode cX11_canBeLaidOver 19 = .ok (.invokevirtual 236, 3) := by decide +kernel
theorem dX11_canBeLaidOver_22 : decode cX11_canBeLaidOver 22 = .ok (.ifCond .ne 5, 3) := by decide +kernel
theorem dX11_canBeLaidOver_25 : decode cX11_canBeLaidOver 25 = .ok (.iconst 0, 1) := by decide +kernel
theorem dX11_canBeLaidOver_26 : decode cX11_canBeLaidOver 26 = .ok (.ireturn, 1) := by decide +kernel
theorem dX11_canBeLaidOver_27 : decode cX11_canBeLaidOver 27 = .ok (.iconst 0, 1) := by decide +kernel
theorem dX11_canBeLaidOver_28 : decode cX11_canBeLaidOver 28 = .ok (.istore_n 2, 1) := by decide +kernel
theorem dX11_canBeLaidOver_29 : decode cX11_canBeLaidOver 29 = .ok (.iconst 0, 1) := by decide +kernel
theorem dX11_canBeLaidOver_30 : decode cX11_canBeLaidOver 30 = .ok (.istore_n 3, 1) := by decide +kernel
theorem dX11_canBeLaidOver_31 : decode cX11_canBeLaidOver 31 = .ok (.iload_n 3, 1) := by decide +kernel
theorem dX11_canBeLaidOver_32 : decode cX11_canBeLaidOver 32 = .ok (.iconst 1, 1) := by decide +kernel
theorem dX11_canBeLaidOver_33 : decode cX11_canBeLaidOver 33 = .ok (.iadd, 1) := by decide +kernel
theorem dX11_canBeLaidOver_34 : decode cX11_canBeLaidOver 34 = .ok (.aload_n 0, 1) := by decide +kernel
theorem dX11_canBeLaidOver_35 : decode cX11_canBeLaidOver 35 = .ok (.getfield 195, 3) := by decide +kernel
theorem dX11_canBeLaidOver_38 : decode cX11_canBeLaidOver 38 = .ok (.if_icmp .ge 57, 3) := by decide +kernel
theorem dX11_canBeLaidOver_41 : decode cX11_canBeLaidOver 41 = .ok (.iconst 0, 1) := by decide +kernel
theorem dX11_canBeLaidOver_42 : decode cX11_canBeLaidOver 42 = .ok (.istore 4, 2) := by decide +kernel
theorem dX11_canBeLaidOver_44 : decode cX11_canBeLaidOver 44 = .ok (.iload 4, 2) := by decide +kernel
theorem dX11_canBeLaidOver_46 : decode cX11_canBeLaidOver 46 = .ok (.aload_n 0, 1) := by decide +kernel
theorem dX11_canBeLaidOver_47 : decode cX11_canBeLaidOver 47 = .ok (.iload_n 3, 1) := by decide +kernel
theorem dX11_canBeLaidOver_48 : decode cX11_canBeLaidOver 48 = .ok (.invokevirtual 240, 3) := by decide +kernel
theorem dX11_canBeLaidOver_51 : decode cX11_canBeLaidOver 51 = .ok (.if_icmp .ge 35, 3) := by decide +kernel
theorem dX11_canBeLaidOver_54 : decode cX11_canBeLaidOver 54 = .ok (.aload_n 0, 1) := by decide +kernel
theorem dX11_canBeLaidOver_55 : decode cX11_canBeLaidOver 55 = .ok (.iload_n 3, 1) := by decide +kernel
theorem dX11_canBeLaidOver_56 : decode cX11_canBeLaidOver 56 = .ok (.iload 4, 2) := by decide +kernel
theorem dX11_canBeLaidOver_58 : decode cX11_canBeLaidOver 58 = .ok (.invokevirtual 244, 3) := by decide +kernel
theorem dX11_canBeLaidOver_61 : decode cX11_canBeLaidOver 61 = .ok (.istore 5, 2) := by decide +kernel
theorem dX11_canBeLaidOver_63 : decode cX11_canBeLaidOver 63 = .ok (.aload_n 0, 1) := by decide +kernel
theorem dX11_canBeLaidOver_64 : decode cX11_canBeLaidOver 64 = .ok (.iload_n 2, 1) := by decide +kernel
theorem dX11_canBeLaidOver_65 : decode cX11_canBeLaidOver 65 = .ok (.iload 5, 2) := by decide +kernel
theorem dX11_canBeLaidOver_67 : decode cX11_canBeLaidOver 67 = .ok (.invokevirtual 247, 3) := by decide +kernel
theorem dX11_canBeLaidOver_70 : decode cX11_canBeLaidOver 70 = .ok (.ifCond .ne 5, 3) := by decide +kernel
theorem dX11_canBeLaidOver_73 : decode cX11_canBeLaidOver 73 = .ok (.iconst 0, 1) := by decide +kernel
theorem dX11_canBeLaidOver_74 : decode cX11_canBeLaidOver 74 = .ok (.ireturn, 1) := by decide +kernel
theorem dX11_canBeLaidOver_75 : decode cX11_canBeLaidOver 75 = .ok (.iload_n 2, 1) := by decide +kernel
theorem dX11_canBeLaidOver_76 : decode cX11_canBeLaidOver 76 = .ok (.iload 5, 2) := by decide +kernel
theorem dX11_canBeLaidOver_78 : decode cX11_canBeLaidOver 78 = .ok (.iadd, 1) := by decide +kernel
theorem dX11_canBeLaidOver_79 : decode cX11_canBeLaidOver 79 = .ok (.istore_n 2, 1) := by decide +kernel
theorem dX11_canBeLaidOver_80 : decode cX11_canBeLaidOver 80 = .ok (.iinc 4 1, 3) := by decide +kernel
theorem dX11_canBeLaidOver_83 : decode cX11_canBeLaidOver 83 = .ok (.goto (-39), 3) := by decide +kernel
theorem dX11_canBeLaidOver_86 : decode cX11_canBeLaidOver 86 = .ok (.aload_n 0, 1) := by decide +kernel
theorem dX11_canBeLaidOver_87 : decode cX11_canBeLaidOver 87 = .ok (.iload_n 3, 1) := by decide +kernel
theorem dX11_canBeLaidOver_88 : decode cX11_canBeLaidOver 88 = .ok (.invokevirtual 251, 3) := by decide +kernel
theorem dX11_canBeLaidOver_91 : decode cX11_canBeLaidOver 91 = .ok (.istore_n 3, 1) := by decide +kernel
theorem dX11_canBeLaidOver_92 : decode cX11_canBeLaidOver 92 = .ok (.goto (-61), 3) := by decide +kernel
theorem dX11_canBeLaidOver_95 : decode cX11_canBeLaidOver 95 = .ok (.iconst 1, 1) := by decide +kernel
theorem dX11_canBeLaidOver_96 : decode cX11_canBeLaidOver 96 = .ok (.ireturn, 1) := by decide +kernel
theorem dX11_relate_0 : decode cX11_relate 0 = .ok (.aload_n 0, 1) := by decide +kernel
theorem dX11_relate_1 : decode cX11_relate 1 = .ok (.iconst 0, 1) := by decide +kernel
theorem dX11_relate_2 : decode cX11_relate 2 = .ok (.iload_n 1, 1) := by decide +kernel
theorem dX11_relate_3 : decode cX11_relate 3 = .ok (.iload_n 2, 1) := by decide +kernel
theorem dX11_relate_4 : decode cX11_relate 4 = .ok (.invokevirtual 254, 3) := by decide +kernel
theorem dX11_relate_7 : decode cX11_relate 7 = .ok (.aload_n 0, 1) := by decide +kernel
theorem dX11_relate_8 : decode cX11_relate 8 = .ok (.getfield 76, 3) := by decide +kernel
theorem dX11_relate_11 : decode cX11_relate 11 = .ok (.aload_n 0, 1) := by decide +kernel
theorem dX11_relate_12 : decode cX11_relate 12 = .ok (.iload_n 1, 1) := by decide +kernel
theorem dX11_relate_13 : decode cX11_relate 13 = .ok (.invokevirtual 140, 3) := by decide +kernel
theorem dX11_relate_16 : decode cX11_relate 16 = .ok (.aload_n 0, 1) := by decide +kernel
theorem dX11_relate_17 : decode cX11_relate 17 = .ok (.iload_n 2, 1) := by decide +kernel
theorem dX11_relate_18 : decode cX11_relate 18 = .ok (.invokevirtual 140, 3) := by decide +kernel
theorem dX11_relate_21 : decode cX11_relate 21 = .ok (.invokevirtual 258, 3) := by decide +kernel
theorem dX11_relate_24 : decode cX11_relate 24 = .ok (.ifCond .ne 11, 3) := by decide +kernel
theorem dX11_relate_27 : decode cX11_relate 27 = .ok (.new 232, 3) := by decide +kernel
theorem dX11_relate_30 : decode cX11_relate 30 = .ok (.dup, 1) := by decide +kernel
theorem dX11_relate_31 : decode cX11_relate 31 = .ok (.invokespecial 234, 3) := by decide +kernel
theorem dX11_relate_34 : decode cX11_relate 34 = .ok (.athrow, 1) := by decide +kernel
theorem dX11_relate_35 : decode cX11_relate 35 = .ok (.aload_n 0, 1) := by decide +kernel
theorem dX11_relate_36 : decode cX11_relate 36 = .ok (.getfield 76, 3) := by decide +kernel
theorem dX11_relate_39 : decode cX11_relate 39 = .ok (.invokevirtual 261, 3) := by decide +kernel
theorem dX11_relate_42 : decode cX11_relate 42 = .ok (.ireturn, 1) := by decide +kernel
theorem dX11_is_0 : decode cX11_is 0 = .ok (.aload_n 0, 1) := by decide +kernel
theorem dX11_is_1 : decode cX11_is 1 = .ok (.iload_n 1, 1) := by decide +kernel
theorem dX11_is_2 : decode cX11_is 2 = .ok (.iload_n 2, 1) := by decide +kernel
theorem dX11_is_3 : decode cX11_is 3 = .ok (.iload_n 3, 1) := by decide +kernel
theorem dX11_is_4 : decode cX11_is 4 = .ok (.invokevirtual 254, 3) := by decide +kernel
theorem dX11_is_7 : decode cX11_is 7 = .ok (.aload_n 0, 1) := by decide +kernel
theorem dX11_is_8 : decode cX11_is 8 = .ok (.getfield 76, 3) := by decide +kernel
theorem dX11_is_11 : decode cX11_is 11 = .ok (.aload_n 0, 1) := by decide +kernel
theorem dX11_is_12 : decode cX11_is 12 = .ok (.iload_n 2, 1) := by decide +kernel
theorem dX11_is_13 : decode cX11_is 13 = .ok (.invokevirtual 140, 3) := by decide +kernel
theorem dX11_is_16 : decode cX11_is 16 = .ok (.aload_n 0, 1) := by decide +kernel
theorem dX11_is_17 : decode cX11_is 17 = .ok (.iload_n 3, 1) := by decide +kernel
theorem dX11_is_18 : decode cX11_is 18 = .ok (.invokevirtual 140, 3) := by decide +kernel
theorem dX11_is_21 : decode cX11_is 21 = .ok (.invokevirtual 258, 3) := by decide +kernel
theorem dX11_is_24 : decode cX11_is 24 = .ok (.ifCond .ne 11, 3) := by decide +kernel
theorem dX11_is_27 : decode cX11_is 27 = .ok (.new 232, 3) := by decide +kernel
theorem dX11_is_30 : decode cX11_is 30 = .ok (.dup, 1) := by decide +kernel
theorem dX11_is_31 : decode cX11_is 31 = .ok (.invokespecial 234, 3) := by decide +kernel
theorem dX11_is_34 : decode cX11_is 34 = .ok (.athrow, 1) := by decide +kernel
theorem dX11_is_35 : decode cX11_is 35 = .ok (.aload_n 0, 1) := by decide +kernel
theorem dX11_is_36 : decode cX11_is 36 = .ok (.getfield 76, 3) := by decide +kernel
theorem dX11_is_39 : decode cX11_is 39 = .ok (.iload_n 1, 1) := by decide +kernel
theorem dX11_is_40 : decode cX11_is 40 = .ok (.invokevirtual 264, 3) := by decide +kernel
theorem dX11_is_43 : decode cX11_is 43 = .ok (.ireturn, 1) := by decide +kernel
theorem dX11_mustBeRelatable_0 : decode cX11_mustBeRelatable 0 = .ok (.aload_n 0, 1) := by decide +kernel
theorem dX11_mustBeRelatable_1 : decode cX11_mustBeRelatable 1 = .ok (.iload_n 2, 1) := by decide +kernel
theorem dX11_mustBeRelatable_2 : decode cX11_mustBeRelatable 2 = .ok (.invokevirtual 140, 3) := by decide +kernel
theorem dX11_mustBeRelatable_5 : decode cX11_mustBeRelatable 5 = .ok (.astore 4, 2) := by decide +kernel
theorem dX11_mustBeRelatable_7 : decode cX11_mustBeRelatable 7 = .ok (.aload_n 0, 1) := by decide +kernel
theorem dX11_mustBeRelatable_8 : decode cX11_mustBeRelatable 8 = .ok (.iload_n 3, 1) := by decide +kernel
theorem dX11_mustBeRelatable_9 : decode cX11_mustBeRelatable 9 = .ok (.invokevirtual 140, 3) := by decide +kernel
theorem dX11_mustBeRelatable_12 : decode cX11_mustBeRelatable 12 = .ok (.astore 5, 2) := by decide +kernel
theorem dX11_mustBeRelatable_14 : decode cX11_mustBeRelatable 14 = .ok (.aload 4, 2) := by decide +kernel
theorem dX11_mustBeRelatable_16 : decode cX11_mustBeRelatable 16 = .ok (.invokestatic 172, 3) := by decide +kernel
theorem dX11_mustBeRelatable_19 : decode cX11_mustBeRelatable 19 = .ok (.aload 5, 2) := by decide +kernel
theorem dX11_mustBeRelatable_21 : decode cX11_mustBeRelatable 21 = .ok (.invokestatic 172, 3) := by decide +kernel
theorem dX11_mustBeRelatable_24 : decode cX11_mustBeRelatable 24 = .ok (.iload_n 1, 1) := by decide +kernel
theorem dX11_mustBeRelatable_25 : decode cX11_mustBeRelatable 25 = .ok (.ifCond .lt 25, 3) := by decide +kernel
theorem dX11_mustBeRelatable_28 : decode cX11_mustBeRelatable 28 = .ok (.iload_n 1, 1) := by decide +kernel
theorem dX11_mustBeRelatable_29 : decode cX11_mustBeRelatable 29 = .ok (.bipush 9, 2) := by decide +kernel
theorem dX11_mustBeRelatable_31 : decode cX11_mustBeRelatable 31 = .ok (.if_icmp .ge 19, 3) := by decide +kernel
theorem dX11_mustBeRelatable_34 : decode cX11_mustBeRelatable 34 = .ok (.aload 4, 2) := by decide +kernel
theorem dX11_mustBeRelatable_36 : decode cX11_mustBeRelatable 36 = .ok (.invokestatic 267, 3) := by decide +kernel
theorem dX11_mustBeRelatable_39 : decode cX11_mustBeRelatable 39 = .ok (.ifCond .eq 11, 3) := by decide +kernel
theorem dX11_mustBeRelatable_42 : decode cX11_mustBeRelatable 42 = .ok (.aload 5, 2) := by decide +kernel
theorem dX11_mustBeRelatable_44 : decode cX11_mustBeRelatable 44 = .ok (.invokestatic 267, 3) := by decide +kernel
theorem dX11_mustBeRelatable_47 : decode cX11_mustBeRelatable 47 = .ok (.ifCond .ne 11, 3) := by decide +kernel
theorem dX11_mustBeRelatable_50 : decode cX11_mustBeRelatable 50 = .ok (.new 116, 3) := by decide +kernel
theorem dX11_mustBeRelatable_53 : decode cX11_mustBeRelatable 53 = .ok (.dup, 1) := by decide +kernel
theorem dX11_mustBeRelatable_54 : decode cX11_mustBeRelatable 54 = .ok (.invokespecial 118, 3) := by decide +kernel
theorem dX11_mustBeRelatable_57 : decode cX11_mustBeRelatable 57 = .ok (.athrow, 1) := by decide +kernel
theorem dX11_mustBeRelatable_58 : decode cX11_mustBeRelatable 58 = .ok (.return_, 1) := by decide +kernel
theorem dX11_canBeRelated_0 : decode cX11_canBeRelated 0 = .ok (.aload_n 0, 1) := by decide +kernel
theorem dX11_canBeRelated_1 : decode cX11_canBeRelated 1 = .ok (.invokevirtual 168, 3) := by decide +kernel
theorem dX11_canBeRelated_4 : decode cX11_canBeRelated 4 = .ok (.bipush 7, 2) := by decide +kernel
theorem dX11_canBeRelated_6 : decode cX11_canBeRelated 6 = .ok (.if_icmp .eq 16, 3) := by decide +kernel
theorem dX11_canBeRelated_9 : decode cX11_canBeRelated 9 = .ok (.aload_n 0, 1) := by decide +kernel
theorem dX11_canBeRelated_10 : decode cX11_canBeRelated 10 = .ok (.ldc 235, 2) := by decide +kernel
theorem dX11_canBeRelated_12 : decode cX11_canBeRelated 12 = .ok (.invokevirtual 236, 3) := by decide +kernel
theorem dX11_canBeRelated_15 : decode cX11_canBeRelated 15 = .ok (.ifCond .eq 7, 3) := by decide +kernel
theorem dX11_canBeRelated_18 : decode cX11_canBeRelated 18 = .ok (.iconst 1, 1) := by decide +kernel
theorem dX11_canBeRelated_19 : decode cX11_canBeRelated 19 = .ok (.goto 4, 3) := by decide +kernel
theorem dX11_canBeRelated_22 : decode cX11_canBeRelated 22 = .ok (.iconst 0, 1) := by decide +kernel
theorem dX11_canBeRelated_23 : decode cX11_canBeRelated 23 = .ok (.ireturn, 1) := by decide +kernel
theorem dX11_locate_0 : decode cX11_locate 0 = .ok (.aload_n 0, 1) := by decide +kernel
theorem dX11_locate_1 : decode cX11_locate 1 = .ok (.iload_n 1, 1) := by decide +kernel
theorem dX11_locate_2 : decode cX11_locate 2 = .ok (.invokevirtual 140, 3) := by decide +kernel
theorem dX11_locate_5 : decode cX11_locate 5 = .ok (.astore 4, 2) := by decide +kernel
theorem dX11_locate_7 : decode cX11_locate 7 = .ok (.aload 4, 2) := by decide +kernel
theorem dX11_locate_9 : decode cX11_locate 9 = .ok (.invokestatic 172, 3) := by decide +kernel
theorem dX11_locate_12 : decode cX11_locate 12 = .ok (.iload_n 2, 1) := by decide +kernel
theorem dX11_locate_13 : decode cX11_locate 13 = .ok (.ldc 235, 2) := by decide +kernel
theorem dX11_locate_15 : decode cX11_locate 15 = .ok (.invokestatic 270, 3) := by decide +kernel
theorem dX11_locate_18 : decode cX11_locate 18 = .ok (.ifCond .ne 20, 3) := by decide +kernel
theorem dX11_locate_21 : decode cX11_locate 21 = .ok (.iload_n 3, 1) := by decide +kernel
theorem dX11_locate_22 : decode cX11_locate 22 = .ok (.ldc 235, 2) := by decide +kernel
theorem dX11_locate_24 : decode cX11_locate 24 = .ok (.invokestatic 270, 3) := by decide +kernel
theorem dX11_locate_27 : decode cX11_locate 27 = .ok (.ifCond .ne 11, 3) := by decide +kernel
theorem dX11_locate_30 : decode cX11_locate 30 = .ok (.aload 4, 2) := by decide +kernel
theorem dX11_locate_32 : decode cX11_locate 32 = .ok (.invokestatic 267, 3) := by decide +kernel
theorem dX11_locate_35 : decode cX11_locate 35 = .ok (.ifCond .ne 11, 3) := by decide +kernel
theorem dX11_locate_38 : decode cX11_locate 38 = .ok (.new 116, 3) := by decide +kernel
theorem dX11_locate_41 : decode cX11_locate 41 = .ok (.dup, 1) := by decide +kernel
theorem dX11_locate_42 : decode cX11_locate 42 = .ok (.invokespecial 118, 3) := by decide +kernel
theorem dX11_locate_45 : decode cX11_locate 45 = .ok (.athrow, 1) := by decide +kernel
theorem dX11_locate_46 : decode cX11_locate 46 = .ok (.aload 4, 2) := by decide +kernel
theorem dX11_locate_48 : decode cX11_locate 48 = .ok (.invokestatic 273, 3) := by decide +kernel
theorem dX11_locate_51 : decode cX11_locate 51 = .ok (.ifCond .eq 11, 3) := by decide +kernel
theorem dX11_locate_54 : decode cX11_locate 54 = .ok (.new 232, 3) := by decide +kernel
theorem dX11_locate_57 : decode cX11_locate 57 = .ok (.dup, 1) := by decide +kernel
theorem dX11_locate_58 : decode cX11_locate 58 = .ok (.invokespecial 234, 3) := by decide +kernel
theorem dX11_locate_61 : decode cX11_locate 61 = .ok (.athrow, 1) := by decide +kernel
theorem dX11_locate_62 : decode cX11_locate 62 = .ok (.aload 4, 2) := by decide +kernel
theorem dX11_locate_64 : decode cX11_locate 64 = .ok (.iload_n 2, 1) := by decide +kernel
theorem dX11_locate_65 : decode cX11_locate 65 = .ok (.iload_n 3, 1) := by decide +kernel
theorem dX11_locate_66 : decode cX11_locate 66 = .ok (.invokestatic 276, 3) := by decide +kernel
theorem dX11_locate_69 : decode cX11_locate 69 = .ok (.ireturn, 1) := by decide +kernel
theorem dX11_isBeyond_0 : decode cX11_isBeyond 0 = .ok (.iload_n 0, 1) := by decide +kernel
theorem dX11_isBeyond_1 : decode cX11_isBeyond 1 = .ok (.iload_n 1, 1) := by decide +kernel
theorem dX11_isBeyond_2 : decode cX11_isBeyond 2 = .ok (.ineg, 1) := by decide +kernel
theorem dX11_isBeyond_3 : decode cX11_isBeyond 3 = .ok (.if_icmp .lt 8, 3) := by decide +kernel
theorem dX11_isBeyond_6 : decode cX11_isBeyond 6 = .ok (.iload_n 0, 1) := by decide +kernel
theorem dX11_isBeyond_7 : decode cX11_isBeyond 7 = .ok (.iload_n 1, 1) := by decide +kernel
theorem dX11_isBeyond_8 : decode cX11_isBeyond 8 = .ok (.if_icmp .le 7, 3) := by decide +kernel
theorem dX11_isBeyond_11 : decode cX11_isBeyond 11 = .ok (.iconst 1, 1) := by decide +kernel
theorem dX11_isBeyond_12 : decode cX11_isBeyond 12 = .ok (.goto 4, 3) := by decide +kernel
theorem dX11_isBeyond_15 : decode cX11_isBeyond 15 = .ok (.iconst 0, 1) := by decide +kernel
theorem dX11_isBeyond_16 : decode cX11_isBeyond 16 = .ok (.ireturn, 1) := by decide +kernel
theorem dX11_hull_0 : decode cX11_hull 0 = .ok (.aload_n 0, 1) := by decide +kernel
theorem dX11_hull_1 : decode cX11_hull 1 = .ok (.iload_n 1, 1) := by decide +kernel
theorem dX11_hull_2 : decode cX11_hull 2 = .ok (.invokevirtual 140, 3) := by decide +kernel
theorem dX11_hull_5 : decode cX11_hull 5 = .ok (.astore_n 3, 1) := by decide +kernel
theorem dX11_hull_6 : decode cX11_hull 6 = .ok (.aload_n 0, 1) := by decide +kernel
theorem dX11_hull_7 : decode cX11_hull 7 = .ok (.iload_n 2, 1) := by decide +kernel
theorem dX11_hull_8 : decode cX11_hull 8 = .ok (.invokevirtual 140, 3) := by decide +kernel
theorem dX11_hull_11 : decode cX11_hull 11 = .ok (.astore 4, 2) := by decide +kernel
theorem dX11_hull_13 : decode cX11_hull 13 = .ok (.aload_n 3, 1) := by decide +kernel
theorem dX11_hull_14 : decode cX11_hull 14 = .ok (.invokestatic 172, 3) := by decide +kernel
theorem dX11_hull_17 : decode cX11_hull 17 = .ok (.aload_n 0, 1) := by decide +kernel
theorem dX11_hull_18 : decode cX11_hull 18 = .ok (.getfield 83, 3) := by decide +kernel
theorem dX11_hull_21 : decode cX11_hull 21 = .ok (.aload_n 3, 1) := by decide +kernel
theorem dX11_hull_22 : decode cX11_hull 22 = .ok (.invokevirtual 280, 3) := by decide +kernel
theorem dX11_hull_25 : decode cX11_hull 25 = .ok (.ifCond .ne 11, 3) := by decide +kernel
theorem dX11_hull_28 : decode cX11_hull 28 = .ok (.new 232, 3) := by decide +kernel
theorem dX11_hull_31 : decode cX11_hull 31 = .ok (.dup, 1) := by decide +kernel
theorem dX11_hull_32 : decode cX11_hull 32 = .ok (.invokespecial 234, 3) := by decide +kernel
theorem dX11_hull_35 : decode cX11_hull 35 = .ok (.athrow, 1) := by decide +kernel
theorem dX11_hull_36 : decode cX11_hull 36 = .ok (.aload_n 0, 1) := by decide +kernel
theorem dX11_hull_37 : decode cX11_hull 37 = .ok (.getfield 83, 3) := by decide +kernel
theorem dX11_hull_40 : decode cX11_hull 40 = .ok (.aload 4, 2) := by decide +kernel
theorem dX11_hull_42 : decode cX11_hull 42 = .ok (.invokevirtual 283, 3) := by decide +kernel
theorem dX11_hull_45 : decode cX11_hull 45 = .ok (.ireturn, 1) := by decide +kernel
theorem dX11_triangles_0 : decode cX11_triangles 0 = .ok (.aload_n 0, 1) := by decide +kernel
theorem dX11_triangles_1 : decode cX11_triangles 1 = .ok (.iload_n 1, 1) := by decide +kernel
theorem dX11_triangles_2 : decode cX11_triangles 2 = .ok (.invokevirtual 140, 3) := by decide +kernel
theorem dX11_triangles_5 : decode cX11_triangles 5 = .ok (.astore_n 3, 1) := by decide +kernel
theorem dX11_triangles_6 : decode cX11_triangles 6 = .ok (.aload_n 0, 1) := by decide +kernel
theorem dX11_triangles_7 : decode cX11_triangles 7 = .ok (.iload_n 2, 1) := by decide +kernel
theorem dX11_triangles_8 : decode cX11_triangles 8 = .ok (.invokevirtual 140, 3) := by decide +kernel
theorem dX11_triangles_11 : decode cX11_triangles 11 = .ok (.astore 4, 2) := by decide +kernel
theorem dX11_triangles_13 : decode cX11_triangles 13 = .ok (.aload_n 3, 1) := by decide +kernel
theorem dX11_triangles_14 : decode cX11_triangles 14 = .ok (.invokestatic 172, 3) := by decide +kernel
theorem dX11_triangles_17 : decode cX11_triangles 17 = .ok (.aload_n 0, 1) := by decide +kernel
theorem dX11_triangles_18 : decode cX11_triangles 18 = .ok (.getfield 83, 3) := by decide +kernel
theorem dX11_triangles_21 : decode cX11_triangles 21 = .ok (.aload_n 3, 1) := by decide +kernel
theorem dX11_triangles_22 : decode cX11_triangles 22 = .ok (.invokevirtual 280, 3) := by decide +kernel
theorem dX11_triangles_25 : decode cX11_triangles 25 = .ok (.ifCond .eq 13, 3) := by decide +kernel
theorem dX11_triangles_28 : decode cX11_triangles 28 = .ok (.aload_n 0, 1) := by decide +kernel
theorem dX11_triangles_29 : decode cX11_triangles 29 = .ok (.getfield 83, 3) := by decide +kernel
theorem dX11_triangles_32 : decode cX11_triangles 32 = .ok (.invokevirtual 286, 3) := by decide +kernel
theorem dX11_triangles_35 : decode cX11_triangles 35 = .ok (.ifCond .ne 11, 3) := by decide +kernel
theorem dX11_triangles_38 : decode cX11_triangles 38 = .ok (.new 232, 3) := by decide +kernel
theorem dX11_triangles_41 : decode cX11_triangles 41 = .ok (.dup, 1) := by decide +kernel
theorem dX11_triangles_42 : decode cX11_triangles 42 = .ok (.invokespecial 234, 3) := by decide +kernel
theorem dX11_triangles_45 : decode cX11_triangles 45 = .ok (.athrow, 1) := by decide +kernel
theorem dX11_triangles_46 : decode cX11_triangles 46 = .ok (.aload_n 0, 1) := by decide +kernel
theorem dX11_triangles_47 : decode cX11_triangles 47 = .ok (.getfield 83, 3) := by decide +kernel
theorem dX11_triangles_50 : decode cX11_triangles 50 = .ok (.aload 4, 2) := by decide +kernel
theorem dX11_triangles_52 : decode cX11_triangles 52 = .ok (.invokevirtual 289, 3) := by decide +kernel
theorem dX11_triangles_55 : decode cX11_triangles 55 = .ok (.ireturn, 1) := by decide +kernel
theorem dX11_simplify_0 : decode cX11_simplify 0 = .ok (.aload_n 0, 1) := by decide +kernel
theorem dX11_simplify_1 : decode cX11_simplify 1 = .ok (.iload_n 1, 1) := by decide +kernel
theorem dX11_simplify_2 : decode cX11_simplify 2 = .ok (.invokevirtual 140, 3) := by decide +kernel
theorem dX11_simplify_5 : decode cX11_simplify 5 = .ok (.astore 4, 2) := by decide +kernel
theorem dX11_simplify_7 : decode cX11_simplify 7 = .ok (.aload_n 0, 1) := by decide +kernel
theorem dX11_simplify_8 : decode cX11_simplify 8 = .ok (.iload_n 2, 1) := by decide +kernel
theorem dX11_simplify_9 : decode cX11_simplify 9 = .ok (.invokevirtual 140, 3) := by decide +kernel
theorem dX11_simplify_12 : decode cX11_simplify 12 = .ok (.astore 5, 2) := by decide +kernel
theorem dX11_simplify_14 : decode cX11_simplify 14 = .ok (.aload 4, 2) := by decide +kernel
theorem dX11_simplify_16 : decode cX11_simplify 16 = .ok (.invokestatic 172, 3) := by decide +kernel
theorem dX11_simplify_19 : decode cX11_simplify 19 = .ok (.iload_n 3, 1) := by decide +kernel
theorem dX11_simplify_20 : decode cX11_simplify 20 = .ok (.ifCond .lt 10, 3) := by decide +kernel
theorem dX11_simplify_23 : decode cX11_simplify 23 = .ok (.iload_n 3, 1) := by decide +kernel
theorem dX11_simplify_24 : decode cX11_simplify 24 = .ok (.ldc_w 292, 3) := by decide +kernel
theorem dX11_simplify_27 : decode cX11_simplify 27 = .ok (.if_icmp .le 11, 3) := by decide +kernel
theorem dX11_simplify_30 : decode cX11_simplify 30 = .ok (.new 116, 3) := by decide +kernel
theorem dX11_simplify_33 : decode cX11_simplify 33 = .ok (.dup, 1) := by decide +kernel
theorem dX11_simplify_34 : decode cX11_simplify 34 = .ok (.invokespecial 118, 3) := by decide +kernel
theorem dX11_simplify_37 : decode cX11_simplify 37 = .ok (.athrow, 1) := by decide +kernel
theorem dX11_simplify_38 : decode cX11_simplify 38 = .ok (.aload_n 0, 1) := by decide +kernel
theorem dX11_simplify_39 : decode cX11_simplify 39 = .ok (.getfield 83, 3) := by decide +kernel
theorem dX11_simplify_42 : decode cX11_simplify 42 = .ok (.aload 4, 2) := by decide +kernel
theorem dX11_simplify_44 : decode cX11_simplify 44 = .ok (.aload_n 0, 1) := by decide +kernel
theorem dX11_simplify_45 : decode cX11_simplify 45 = .ok (.getfield 16, 3) := by decide +kernel
theorem dX11_simplify_48 : decode cX11_simplify 48 = .ok (.iload_n 3, 1) := by decide +kernel
theorem dX11_simplify_49 : decode cX11_simplify 49 = .ok (.invokevirtual 293, 3) := by decide +kernel
theorem dX11_simplify_52 : decode cX11_simplify 52 = .ok (.istore 6, 2) := by decide +kernel
theorem dX11_simplify_54 : decode cX11_simplify 54 = .ok (.aload 5, 2) := by decide +kernel
theorem dX11_simplify_56 : decode cX11_simplify 56 = .ok (.aload_n 0, 1) := by decide +kernel
theorem dX11_simplify_57 : decode cX11_simplify 57 = .ok (.getfield 16, 3) := by decide +kernel
theorem dX11_simplify_60 : decode cX11_simplify 60 = .ok (.invokevirtual 188, 3) := by decide +kernel
theorem dX11_simplify_63 : decode cX11_simplify 63 = .ok (.iload 6, 2) := by decide +kernel
theorem dX11_simplify_65 : decode cX11_simplify 65 = .ok (.ireturn, 1) := by decide +kernel
theorem dX11_area_0 : decode cX11_area 0 = .ok (.aload_n 0, 1) := by decide +kernel
theorem dX11_area_1 : decode cX11_area 1 = .ok (.iload_n 1, 1) := by decide +kernel
theorem dX11_area_2 : decode cX11_area 2 = .ok (.invokevirtual 140, 3) := by decide +kernel
theorem dX11_area_5 : decode cX11_area 5 = .ok (.astore_n 2, 1) := by decide +kernel
theorem dX11_area_6 : decode cX11_area 6 = .ok (.aload_n 2, 1) := by decide +kernel
theorem dX11_area_7 : decode cX11_area 7 = .ok (.invokestatic 172, 3) := by decide +kernel
theorem dX11_area_10 : decode cX11_area 10 = .ok (.lconst 0, 1) := by decide +kernel
theorem dX11_area_11 : decode cX11_area 11 = .ok (.lstore_n 3, 1) := by decide +kernel
theorem dX11_area_12 : decode cX11_area 12 = .ok (.iconst 0, 1) := by decide +kernel
theorem dX11_area_13 : decode cX11_area 13 = .ok (.istore 5, 2) := by decide +kernel
theorem dX11_area_15 : decode cX11_area 15 = .ok (.iconst 0, 1) := by decide +kernel
theorem dX11_area_16 : decode cX11_area 16 = .ok (.istore 6, 2) := by decide +kernel
theorem dX11_area_18 : decode cX11_area 18 = .ok (.iload 6, 2) := by decide +kernel
theorem dX11_area_20 : decode cX11_area 20 = .ok (.iconst 1, 1) := by decide +kernel
theorem dX11_area_21 : decode cX11_area 21 = .ok (.iadd, 1) := by decide +kernel
theorem dX11_area_22 : decode cX11_area 22 = .ok (.aload_n 2, 1) := by decide +kernel
theorem dX11_area_23 : decode cX11_area 23 = .ok (.getfield 195, 3) := by decide +kernel
theorem dX11_area_26 : decode cX11_area 26 = .ok (.if_icmp .ge 91, 3) := by decide +kernel
theorem dX11_area_29 : decode cX11_area 29 = .ok (.iconst 0, 1) := by decide +kernel
theorem dX11_area_30 : decode cX11_area 30 = .ok (.istore 7, 2) := by decide +kernel
theorem dX11_area_32 : decode cX11_area 32 = .ok (.iload 7, 2) := by decide +kernel
theorem dX11_area_34 : decode cX11_area 34 = .ok (.aload_n 2, 1) := by decide +kernel
theorem dX11_area_35 : decode cX11_area 35 = .ok (.iload 6, 2) := by decide +kernel
theorem dX11_area_37 : decode cX11_area 37 = .ok (.invokevirtual 240, 3) := by decide +kernel
theorem dX11_area_40 : decode cX11_area 40 = .ok (.if_icmp .ge 66, 3) := by decide +kernel
theorem dX11_area_43 : decode cX11_area 43 = .ok (.aload_n 2, 1) := by decide +kernel
theorem dX11_area_44 : decode cX11_area 44 = .ok (.iload 6, 2) := by decide +kernel
theorem dX11_area_46 : decode cX11_area 46 = .ok (.iload 7, 2) := by decide +kernel
theorem dX11_area_48 : decode cX11_area 48 = .ok (.invokevirtual 244, 3) := by decide +kernel
theorem dX11_area_51 : decode cX11_area 51 = .ok (.istore 8, 2) := by decide +kernel
theorem dX11_area_53 : decode cX11_area 53 = .ok (.aload_n 2, 1) := by decide +kernel
theorem dX11_area_54 : decode cX11_area 54 = .ok (.getfield 198, 3) := by decide +kernel
theorem dX11_area_57 : decode cX11_area 57 = .ok (.iload 6, 2) := by decide +kernel
theorem dX11_area_59 : decode cX11_area 59 = .ok (.iaload, 1) := by decide +kernel
theorem dX11_area_60 : decode cX11_area 60 = .ok (.iconst 3, 1) := by decide +kernel
theorem dX11_area_61 : decode cX11_area 61 = .ok (.if_icmp .ne 32, 3) := by decide +kernel
theorem dX11_area_64 : decode cX11_area 64 = .ok (.aload_n 2, 1) := by decide +kernel
theorem dX11_area_65 : decode cX11_area 65 = .ok (.iload 5, 2) := by decide +kernel
theorem dX11_area_67 : decode cX11_area 67 = .ok (.iload 8, 2) := by decide +kernel
theorem dX11_area_69 : decode cX11_area 69 = .ok (.invokevirtual 297, 3) := by decide +kernel
theorem dX11_area_72 : decode cX11_area 72 = .ok (.invokestatic 301, 3) := by decide +kernel
theorem dX11_area_75 : decode cX11_area 75 = .ok (.lstore 9, 2) := by decide +kernel
theorem dX11_area_77 : decode cX11_area 77 = .ok (.lload_n 3, 1) := by decide +kernel
theorem dX11_area_78 : decode cX11_area 78 = .ok (.iload 7, 2) := by decide +kernel
theorem dX11_area_80 : decode cX11_area 80 = .ok (.ifCond .ne 8, 3) := by decide +kernel
theorem dX11_area_83 : decode cX11_area 83 = .ok (.lload 9, 2) := by decide +kernel
theorem dX11_area_85 : decode cX11_area 85 = .ok (.goto 6, 3) := by decide +kernel
theorem dX11_area_88 : decode cX11_area 88 = .ok (.lload 9, 2) := by decide +kernel
theorem dX11_area_90 : decode cX11_area 90 = .ok (.lneg, 1) := by decide +kernel
theorem dX11_area_91 : decode cX11_area 91 = .ok (.ladd, 1) := by decide +kernel
theorem dX11_area_92 : decode cX11_area 92 = .ok (.lstore_n 3, 1) := by decide +kernel
theorem dX11_area_93 : decode cX11_area 93 = .ok (.iload 5, 2) := by decide +kernel
theorem dX11_area_95 : decode cX11_area 95 = .ok (.iload 8, 2) := by decide +kernel
theorem dX11_area_97 : decode cX11_area 97 = .ok (.iadd, 1) := by decide +kernel
theorem dX11_area_98 : decode cX11_area 98 = .ok (.istore 5, 2) := by decide +kernel
theorem dX11_area_100 : decode cX11_area 100 = .ok (.iinc 7 1, 3) := by decide +kernel
theorem dX11_area_103 : decode cX11_area 103 = .ok (.goto (-71), 3) := by decide +kernel
theorem dX11_area_106 : decode cX11_area 106 = .ok (.aload_n 2, 1) := by decide +kernel
theorem dX11_area_107 : decode cX11_area 107 = .ok (.iload 6, 2) := by decide +kernel
theorem dX11_area_109 : decode cX11_area 109 = .ok (.invokevirtual 251, 3) := by decide +kernel
theorem dX11_area_112 : decode cX11_area 112 = .ok (.istore 6, 2) := by decide +kernel
theorem dX11_area_114 : decode cX11_area 114 = .ok (.goto (-96), 3) := by decide +kernel
theorem dX11_area_117 : decode cX11_area 117 = .ok (.lload_n 3, 1) := by decide +kernel
theorem dX11_area_118 : decode cX11_area 118 = .ok (.lreturn, 1) := by decide +kernel
theorem dX11_bounds_0 : decode cX11_bounds 0 = .ok (.aload_n 0, 1) := by decide +kernel
theorem dX11_bounds_1 : decode cX11_bounds 1 = .ok (.iload_n 1, 1) := by decide +kernel
theorem dX11_bounds_2 : decode cX11_bounds 2 = .ok (.invokevirtual 140, 3) := by decide +kernel
theorem dX11_bounds_5 : decode cX11_bounds 5 = .ok (.astore_n 3, 1) := by decide +kernel
theorem dX11_bounds_6 : decode cX11_bounds 6 = .ok (.aload_n 3, 1) := by decide +kernel
theorem dX11_bounds_7 : decode cX11_bounds 7 = .ok (.invokestatic 172, 3) := by decide +kernel
theorem dX11_bounds_10 : decode cX11_bounds 10 = .ok (.iload_n 2, 1) := by decide +kernel
theorem dX11_bounds_11 : decode cX11_bounds 11 = .ok (.ifCond .lt 19, 3) := by decide +kernel
theorem dX11_bounds_14 : decode cX11_bounds 14 = .ok (.iload_n 2, 1) := by decide +kernel
theorem dX11_bounds_15 : decode cX11_bounds 15 = .ok (.iconst 3, 1) := by decide +kernel
theorem dX11_bounds_16 : decode cX11_bounds 16 = .ok (.if_icmp .gt 14, 3) := by decide +kernel
theorem dX11_bounds_19 : decode cX11_bounds 19 = .ok (.aload_n 3, 1) := by decide +kernel
theorem dX11_bounds_20 : decode cX11_bounds 20 = .ok (.aload_n 0, 1) := by decide +kernel
theorem dX11_bounds_21 : decode cX11_bounds 21 = .ok (.getfield 94, 3) := by decide +kernel
theorem dX11_bounds_24 : decode cX11_bounds 24 = .ok (.invokevirtual 305, 3) := by decide +kernel
theorem dX11_bounds_27 : decode cX11_bounds 27 = .ok (.ifCond .ne 11, 3) := by decide +kernel
theorem dX11_bounds_30 : decode cX11_bounds 30 = .ok (.new 116, 3) := by decide +kernel
theorem dX11_bounds_33 : decode cX11_bounds 33 = .ok (.dup, 1) := by decide +kernel
theorem dX11_bounds_34 : decode cX11_bounds 34 = .ok (.invokespecial 118, 3) := by decide +kernel
theorem dX11_bounds_37 : decode cX11_bounds 37 = .ok (.athrow, 1) := by decide +kernel
theorem dX11_bounds_38 : decode cX11_bounds 38 = .ok (.aload_n 0, 1) := by decide +kernel
theorem dX11_bounds_39 : decode cX11_bounds 39 = .ok (.getfield 94, 3) := by decide +kernel
theorem dX11_bounds_42 : decode cX11_bounds 42 = .ok (.iload_n 2, 1) := by decide +kernel
theorem dX11_bounds_43 : decode cX11_bounds 43 = .ok (.iaload, 1) := by decide +kernel
theorem dX11_bounds_44 : decode cX11_bounds 44 = .ok (.ireturn, 1) := by decide +kernel
theorem dX11_find_0 : decode cX11_find 0 = .ok (.iload_n 1, 1) := by decide +kernel
theorem dX11_find_1 : decode cX11_find 1 = .ok (.ifCond .lt 50, 3) := by decide +kernel
theorem dX11_find_4 : decode cX11_find 4 = .ok (.iload_n 1, 1) := by decide +kernel
theorem dX11_find_5 : decode cX11_find 5 = .ok (.iconst 2, 1) := by decide +kernel
theorem dX11_find_6 : decode cX11_find 6 = .ok (.if_icmp .gt 45, 3) := by decide +kernel
theorem dX11_find_9 : decode cX11_find 9 = .ok (.iload_n 2, 1) := by decide +kernel
theorem dX11_find_10 : decode cX11_find 10 = .ok (.ldc_w 309, 3) := by decide +kernel
theorem dX11_find_13 : decode cX11_find 13 = .ok (.if_icmp .lt 38, 3) := by decide +kernel
theorem dX11_find_16 : decode cX11_find 16 = .ok (.iload_n 3, 1) := by decide +kernel
theorem dX11_find_17 : decode cX11_find 17 = .ok (.ldc_w 309, 3) := by decide +kernel
theorem dX11_find_20 : decode cX11_find 20 = .ok (.if_icmp .lt 31, 3) := by decide +kernel
theorem dX11_find_23 : decode cX11_find 23 = .ok (.iload 4, 2) := by decide +kernel
theorem dX11_find_25 : decode cX11_find 25 = .ok (.ldc_w 292, 3) := by decide +kernel
theorem dX11_find_28 : decode cX11_find 28 = .ok (.if_icmp .gt 23, 3) := by decide +kernel
theorem dX11_find_31 : decode cX11_find 31 = .ok (.iload 5, 2) := by decide +kernel
theorem dX11_find_33 : decode cX11_find 33 = .ok (.ldc_w 292, 3) := by decide +kernel
theorem dX11_find_36 : decode cX11_find 36 = .ok (.if_icmp .gt 15, 3) := by decide +kernel
theorem dX11_find_39 : decode cX11_find 39 = .ok (.iload 4, 2) := by decide +kernel
theorem dX11_find_41 : decode cX11_find 41 = .ok (.iload_n 2, 1) := by decide +kernel
theorem dX11_find_42 : decode cX11_find 42 = .ok (.if_icmp .lt 9, 3) := by decide +kernel
theorem dX11_find_45 : decode cX11_find 45 = .ok (.iload 5, 2) := by decide +kernel
theorem dX11_find_47 : decode cX11_find 47 = .ok (.iload_n 3, 1) := by decide +kernel
theorem dX11_find_48 : decode cX11_find 48 = .ok (.if_icmp .ge 11, 3) := by decide +kernel
theorem dX11_find_51 : decode cX11_find 51 = .ok (.new 116, 3) := by decide +kernel
theorem dX11_find_54 : decode cX11_find 54 = .ok (.dup, 1) := by decide +kernel
theorem dX11_find_55 : decode cX11_find 55 = .ok (.invokespecial 118, 3) := by decide +kernel
theorem dX11_find_58 : decode cX11_find 58 = .ok (.athrow, 1) := by decide +kernel
theorem dX11_find_59 : decode cX11_find 59 = .ok (.aload_n 0, 1) := by decide +kernel
theorem dX11_find_60 : decode cX11_find 60 = .ok (.iconst 0, 1) := by decide +kernel
theorem dX11_find_61 : decode cX11_find 61 = .ok (.putfield 213, 3) := by decide +kernel
theorem dX11_find_64 : decode cX11_find 64 = .ok (.iconst 0, 1) := by decide +kernel
theorem dX11_find_65 : decode cX11_find 65 = .ok (.istore 6, 2) := by decide +kernel
theorem dX11_find_67 : decode cX11_find 67 = .ok (.iload 6, 2) := by decide +kernel
theorem dX11_find_69 : decode cX11_find 69 = .ok (.bipush 32, 2) := by decide +kernel
theorem dX11_find_71 : decode cX11_find 71 = .ok (.if_icmp .ge 61, 3) := by decide +kernel
theorem dX11_find_74 : decode cX11_find 74 = .ok (.aload_n 0, 1) := by decide +kernel
theorem dX11_find_75 : decode cX11_find 75 = .ok (.getfield 11, 3) := by decide +kernel
theorem dX11_find_78 : decode cX11_find 78 = .ok (.iload 6, 2) := by decide +kernel
theorem dX11_find_80 : decode cX11_find 80 = .ok (.aaload, 1) := by decide +kernel
theorem dX11_find_81 : decode cX11_find 81 = .ok (.aload_n 0, 1) := by decide +kernel
theorem dX11_find_82 : decode cX11_find 82 = .ok (.getfield 94, 3) := by decide +kernel
theorem dX11_find_85 : decode cX11_find 85 = .ok (.invokevirtual 305, 3) := by decide +kernel
theorem dX11_find_88 : decode cX11_find 88 = .ok (.ifCond .eq 38, 3) := by decide +kernel
theorem dX11_find_91 : decode cX11_find 91 = .ok (.aload_n 0, 1) := by decide +kernel
theorem dX11_find_92 : decode cX11_find 92 = .ok (.iload_n 1, 1) := by decide +kernel
theorem dX11_find_93 : decode cX11_find 93 = .ok (.iload_n 2, 1) := by decide +kernel
theorem dX11_find_94 : decode cX11_find 94 = .ok (.iload_n 3, 1) := by decide +kernel
theorem dX11_find_95 : decode cX11_find 95 = .ok (.iload 4, 2) := by decide +kernel
theorem dX11_find_97 : decode cX11_find 97 = .ok (.iload 5, 2) := by decide +kernel
theorem dX11_find_99 : decode cX11_find 99 = .ok (.invokevirtual 310, 3) := by decide +kernel
theorem dX11_find_102 : decode cX11_find 102 = .ok (.ifCond .eq 24, 3) := by decide +kernel
theorem dX11_find_105 : decode cX11_find 105 = .ok (.aload_n 0, 1) := by decide +kernel
theorem dX11_find_106 : decode cX11_find 106 = .ok (.getfield 98, 3) := by decide +kernel
theorem dX11_find_109 : decode cX11_find 109 = .ok (.aload_n 0, 1) := by decide +kernel
theorem dX11_find_110 : decode cX11_find 110 = .ok (.getfield 213, 3) := by decide +kernel
theorem dX11_find_113 : decode cX11_find 113 = .ok (.iload 6, 2) := by decide +kernel
theorem dX11_find_115 : decode cX11_find 115 = .ok (.iastore, 1) := by decide +kernel
theorem dX11_find_116 : decode cX11_find 116 = .ok (.aload_n 0, 1) := by decide +kernel
theorem dX11_find_117 : decode cX11_find 117 = .ok (.dup, 1) := by decide +kernel
theorem dX11_find_118 : decode cX11_find 118 = .ok (.getfield 213, 3) := by decide +kernel
theorem dX11_find_121 : decode cX11_find 121 = .ok (.iconst 1, 1) := by decide +kernel
theorem dX11_find_122 : decode cX11_find 122 = .ok (.iadd, 1) := by decide +kernel
theorem dX11_find_123 : decode cX11_find 123 = .ok (.putfield 213, 3) := by decide +kernel
theorem dX11_find_126 : decode cX11_find 126 = .ok (.iinc 6 1, 3) := by decide +kernel
theorem dX11_find_129 : decode cX11_find 129 = .ok (.goto (-62), 3) := by decide +kernel
theorem dX11_find_132 : decode cX11_find 132 = .ok (.aload_n 0, 1) := by decide +kernel
theorem dX11_find_133 : decode cX11_find 133 = .ok (.getfield 213, 3) := by decide +kernel
theorem dX11_find_136 : decode cX11_find 136 = .ok (.ireturn, 1) := by decide +kernel
theorem dX11_boxLies_0 : decode cX11_boxLies 0 = .ok (.iload_n 1, 1) := by decide +kernel
theorem dX11_boxLies_1 : decode cX11_boxLies 1 = .ok (.lookupswitch 123 #[(0, 27), (1, 75)], 27) := by decide +kernel
theorem dX11_boxLies_28 : decode cX11_boxLies 28 = .ok (.aload_n 0, 1) := by decide +kernel
theorem dX11_boxLies_29 : decode cX11_boxLies 29 = .ok (.getfield 94, 3) := by decide +kernel
theorem dX11_boxLies_32 : decode cX11_boxLies 32 = .ok (.iconst 0, 1) := by decide +kernel
theorem dX11_boxLies_33 : decode cX11_boxLies 33 = .ok (.iaload, 1) := by decide +kernel
theorem dX11_boxLies_34 : decode cX11_boxLies 34 = .ok (.iload 4, 2) := by decide +kernel
theorem dX11_boxLies_36 : decode cX11_boxLies 36 = .ok (.if_icmp .gt 38, 3) := by decide +kernel
theorem dX11_boxLies_39 : decode cX11_boxLies 39 = .ok (.aload_n 0, 1) := by decide +kernel
theorem dX11_boxLies_40 : decode cX11_boxLies 40 = .ok (.getfield 94, 3) := by decide +kernel
theorem dX11_boxLies_43 : decode cX11_boxLies 43 = .ok (.iconst 2, 1) := by decide +kernel
theorem dX11_boxLies_44 : decode cX11_boxLies 44 = .ok (.iaload, 1) := by decide +kernel
theorem dX11_boxLies_45 : decode cX11_boxLies 45 = .ok (.iload_n 2, 1) := by decide +kernel
theorem dX11_boxLies_46 : decode cX11_boxLies 46 = .ok (.if_icmp .lt 28, 3) := by decide +kernel
theorem dX11_boxLies_49 : decode cX11_boxLies 49 = .ok (.aload_n 0, 1) := by decide +kernel
theorem dX11_boxLies_50 : decode cX11_boxLies 50 = .ok (.getfield 94, 3) := by decide +kernel
theorem dX11_boxLies_53 : decode cX11_boxLies 53 = .ok (.iconst 1, 1) := by decide +kernel
theorem dX11_boxLies_54 : decode cX11_boxLies 54 = .ok (.iaload, 1) := by decide +kernel
theorem dX11_boxLies_55 : decode cX11_boxLies 55 = .ok (.iload 5, 2) := by decide +kernel
theorem dX11_boxLies_57 : decode cX11_boxLies 57 = .ok (.if_icmp .gt 17, 3) := by decide +kernel
theorem dX11_boxLies_60 : decode cX11_boxLies 60 = .ok (.aload_n 0, 1) := by decide +kernel
theorem dX11_boxLies_61 : decode cX11_boxLies 61 = .ok (.getfield 94, 3) := by decide +kernel
theorem dX11_boxLies_64 : decode cX11_boxLies 64 = .ok (.iconst 3, 1) := by decide +kernel
theorem dX11_boxLies_65 : decode cX11_boxLies 65 = .ok (.iaload, 1) := by decide +kernel
theorem dX11_boxLies_66 : decode cX11_boxLies 66 = .ok (.iload_n 3, 1) := by decide +kernel
theorem dX11_boxLies_67 : decode cX11_boxLies 67 = .ok (.if_icmp .lt 7, 3) := by decide +kernel
theorem dX11_boxLies_70 : decode cX11_boxLies 70 = .ok (.iconst 1, 1) := by decide +kernel
theorem dX11_boxLies_71 : decode cX11_boxLies 71 = .ok (.goto 4, 3) := by decide +kernel
theorem dX11_boxLies_74 : decode cX11_boxLies 74 = .ok (.iconst 0, 1) := by decide +kernel
theorem dX11_boxLies_75 : decode cX11_boxLies 75 = .ok (.ireturn, 1) := by decide +kernel
theorem dX11_boxLies_76 : decode cX11_boxLies 76 = .ok (.aload_n 0, 1) := by decide +kernel
theorem dX11_boxLies_77 : decode cX11_boxLies 77 = .ok (.getfield 94, 3) := by decide +kernel
theorem dX11_boxLies_80 : decode cX11_boxLies 80 = .ok (.iconst 0, 1) := by decide +kernel
theorem dX11_boxLies_81 : decode cX11_boxLies 81 = .ok (.iaload, 1) := by decide +kernel
theorem dX11_boxLies_82 : decode cX11_boxLies 82 = .ok (.iload_n 2, 1) := by decide +kernel
theorem dX11_boxLies_83 : decode cX11_boxLies 83 = .ok (.if_icmp .lt 39, 3) := by decide +kernel
theorem dX11_boxLies_86 : decode cX11_boxLies 86 = .ok (.aload_n 0, 1) := by decide +kernel
theorem dX11_boxLies_87 : decode cX11_boxLies 87 = .ok (.getfield 94, 3) := by decide +kernel
theorem dX11_boxLies_90 : decode cX11_boxLies 90 = .ok (.iconst 2, 1) := by decide +kernel
theorem dX11_boxLies_91 : decode cX11_boxLies 91 = .ok (.iaload, 1) := by decide +kernel
theorem dX11_boxLies_92 : decode cX11_boxLies 92 = .ok (.iload 4, 2) := by decide +kernel
theorem dX11_boxLies_94 : decode cX11_boxLies 94 = .ok (.if_icmp .gt 28, 3) := by decide +kernel
theorem dX11_boxLies_97 : decode cX11_boxLies 97 = .ok (.aload_n 0, 1) := by decide +kernel
theorem dX11_boxLies_98 : decode cX11_boxLies 98 = .ok (.getfield 94, 3) := by decide +kernel
theorem dX11_boxLies_101 : decode cX11_boxLies 101 = .ok (.iconst 1, 1) := by decide +kernel
theorem dX11_boxLies_102 : decode cX11_boxLies 102 = .ok (.iaload, 1) := by decide +kernel
theorem dX11_boxLies_103 : decode cX11_boxLies 103 = .ok (.iload_n 3, 1) := by decide +kernel
theorem dX11_boxLies_104 : decode cX11_boxLies 104 = .ok (.if_icmp .lt 18, 3) := by decide +kernel
theorem dX11_boxLies_107 : decode cX11_boxLies 107 = .ok (.aload_n 0, 1) := by decide +kernel
theorem dX11_boxLies_108 : decode cX11_boxLies 108 = .ok (.getfield 94, 3) := by decide +kernel
theorem dX11_boxLies_111 : decode cX11_boxLies 111 = .ok (.iconst 3, 1) := by decide +kernel
theorem dX11_boxLies_112 : decode cX11_boxLies 112 = .ok (.iaload, 1) := by decide +kernel
theorem dX11_boxLies_113 : decode cX11_boxLies 113 = .ok (.iload 5, 2) := by decide +kernel
theorem dX11_boxLies_115 : decode cX11_boxLies 115 = .ok (.if_icmp .gt 7, 3) := by decide +kernel
theorem dX11_boxLies_118 : decode cX11_boxLies 118 = .ok (.iconst 1, 1) := by decide +kernel
theorem dX11_boxLies_119 : decode cX11_boxLies 119 = .ok (.goto 4, 3) := by decide +kernel
theorem dX11_boxLies_122 : decode cX11_boxLies 122 = .ok (.iconst 0, 1) := by decide +kernel
theorem dX11_boxLies_123 : decode cX11_boxLies 123 = .ok (.ireturn, 1) := by decide +kernel
theorem dX11_boxLies_124 : decode cX11_boxLies 124 = .ok (.aload_n 0, 1) := by decide +kernel
theorem dX11_boxLies_125 : decode cX11_boxLies 125 = .ok (.getfield 94, 3) := by decide +kernel
theorem dX11_boxLies_128 : decode cX11_boxLies 128 = .ok (.iconst 0, 1) := by decide +kernel
theorem dX11_boxLies_129 : decode cX11_boxLies 129 = .ok (.iaload, 1) := by decide +kernel
theorem dX11_boxLies_130 : decode cX11_boxLies 130 = .ok (.iload_n 2, 1) := by decide +kernel
theorem dX11_boxLies_131 : decode cX11_boxLies 131 = .ok (.if_icmp .gt 39, 3) := by decide +kernel
theorem dX11_boxLies_134 : decode cX11_boxLies 134 = .ok (.aload_n 0, 1) := by decide +kernel
theorem dX11_boxLies_135 : decode cX11_boxLies 135 = .ok (.getfield 94, 3) := by decide +kernel
theorem dX11_boxLies_138 : decode cX11_boxLies 138 = .ok (.iconst 2, 1) := by decide +kernel
theorem dX11_boxLies_139 : decode cX11_boxLies 139 = .ok (.iaload, 1) := by decide +kernel
theorem dX11_boxLies_140 : decode cX11_boxLies 140 = .ok (.iload 4, 2) := by decide +kernel
theorem dX11_boxLies_142 : decode cX11_boxLies 142 = .ok (.if_icmp .lt 28, 3) := by decide +kernel
theorem dX11_boxLies_145 : decode cX11_boxLies 145 = .ok (.aload_n 0, 1) := by decide +kernel
theorem dX11_boxLies_146 : decode cX11_boxLies 146 = .ok (.getfield 94, 3) := by decide +kernel
theorem dX11_boxLies_149 : decode cX11_boxLies 149 = .ok (.iconst 1, 1) := by decide +kernel
theorem dX11_boxLies_150 : decode cX11_boxLies 150 = .ok (.iaload, 1) := by decide +kernel
theorem dX11_boxLies_151 : decode cX11_boxLies 151 = .ok (.iload_n 3, 1) := by decide +kernel
theorem dX11_boxLies_152 : decode cX11_boxLies 152 = .ok (.if_icmp .gt 18, 3) := by decide +kernel
theorem dX11_boxLies_155 : decode cX11_boxLies 155 = .ok (.aload_n 0, 1) := by decide +kernel
theorem dX11_boxLies_156 : decode cX11_boxLies 156 = .ok (.getfield 94, 3) := by decide +kernel
theorem dX11_boxLies_159 : decode cX11_boxLies 159 = .ok (.iconst 3, 1) := by decide +kernel
theorem dX11_boxLies_160 : decode cX11_boxLies 160 = .ok (.iaload, 1) := by decide +kernel
theorem dX11_boxLies_161 : decode cX11_boxLies 161 = .ok (.iload 5, 2) := by decide +kernel
theorem dX11_boxLies_163 : decode cX11_boxLies 163 = .ok (.if_icmp .lt 7, 3) := by decide +kernel
theorem dX11_boxLies_166 : decode cX11_boxLies 166 = .ok (.iconst 1, 1) := by decide +kernel
theorem dX11_boxLies_167 : decode cX11_boxLies 167 = .ok (.goto 4, 3) := by decide +kernel
theorem dX11_boxLies_170 : decode cX11_boxLies 170 = .ok (.iconst 0, 1) := by decide +kernel
theorem dX11_boxLies_171 : decode cX11_boxLies 171 = .ok (.ireturn, 1) := by decide +kernel
theorem dX11_nearest_0 : decode cX11_nearest 0 = .ok (.iload_n 3, 1) := by decide +kernel
theorem dX11_nearest_1 : decode cX11_nearest 1 = .ok (.iconst 1, 1) := by decide +kernel
theorem dX11_nearest_2 : decode cX11_nearest 2 = .ok (.if_icmp .lt 29, 3) := by decide +kernel
theorem dX11_nearest_5 : decode cX11_nearest 5 = .ok (.iload_n 3, 1) := by decide +kernel
theorem dX11_nearest_6 : decode cX11_nearest 6 = .ok (.bipush 32, 2) := by decide +kernel
theorem dX11_nearest_8 : decode cX11_nearest 8 = .ok (.if_icmp .gt 23, 3) := by decide +kernel
theorem dX11_nearest_11 : decode cX11_nearest 11 = .ok (.iload_n 1, 1) := by decide +kernel
theorem dX11_nearest_12 : decode cX11_nearest 12 = .ok (.ldc_w 292, 3) := by decide +kernel
theorem dX11_nearest_15 : decode cX11_nearest 15 = .ok (.invokestatic 270, 3) := by decide +kernel
theorem dX11_nearest_18 : decode cX11_nearest 18 = .ok (.ifCond .ne 13, 3) := by decide +kernel
theorem dX11_nearest_21 : decode cX11_nearest 21 = .ok (.iload_n 2, 1) := by decide +kernel
theorem dX11_nearest_22 : decode cX11_nearest 22 = .ok (.ldc_w 292, 3) := by decide +kernel
theorem dX11_nearest_25 : decode cX11_nearest 25 = .ok (.invokestatic 270, 3) := by decide +kernel
theorem dX11_nearest_28 : decode cX11_nearest 28 = .ok (.ifCond .eq 11, 3) := by decide +kernel
theorem dX11_nearest_31 : decode cX11_nearest 31 = .ok (.new 116, 3) := by decide +kernel
theorem dX11_nearest_34 : decode cX11_nearest 34 = .ok (.dup, 1) := by decide +kernel
theorem dX11_nearest_35 : decode cX11_nearest 35 = .ok (.invokespecial 118, 3) := by decide +kernel
theorem dX11_nearest_38 : decode cX11_nearest 38 = .ok (.athrow, 1) := by decide +kernel
theorem dX11_nearest_39 : decode cX11_nearest 39 = .ok (.iconst 0, 1) := by decide +kernel
theorem dX11_nearest_40 : decode cX11_nearest 40 = .ok (.istore 4, 2) := by decide +kernel
theorem dX11_nearest_42 : decode cX11_nearest 42 = .ok (.iconst 0, 1) := by decide +kernel
theorem dX11_nearest_43 : decode cX11_nearest 43 = .ok (.istore 5, 2) := by decide +kernel
theorem dX11_nearest_45 : decode cX11_nearest 45 = .ok (.iload 5, 2) := by decide +kernel
theorem dX11_nearest_47 : decode cX11_nearest 47 = .ok (.bipush 32, 2) := by decide +kernel
theorem dX11_nearest_49 : decode cX11_nearest 49 = .ok (.if_icmp .ge 43, 3) := by decide +kernel
theorem dX11_nearest_52 : decode cX11_nearest 52 = .ok (.aload_n 0, 1) := by decide +kernel
theorem dX11_nearest_53 : decode cX11_nearest 53 = .ok (.getfield 11, 3) := by decide +kernel
theorem dX11_nearest_56 : decode cX11_nearest 56 = .ok (.iload 5, 2) := by decide +kernel
theorem dX11_nearest_58 : decode cX11_nearest 58 = .ok (.aaload, 1) := by decide +kernel
theorem dX11_nearest_59 : decode cX11_nearest 59 = .ok (.aload_n 0, 1) := by decide +kernel
theorem dX11_nearest_60 : decode cX11_nearest 60 = .ok (.getfield 94, 3) := by decide +kernel
theorem dX11_nearest_63 : decode cX11_nearest 63 = .ok (.invokevirtual 305, 3) := by decide +kernel
theorem dX11_nearest_66 : decode cX11_nearest 66 = .ok (.ifCond .eq 20, 3) := by decide +kernel
theorem dX11_nearest_69 : decode cX11_nearest 69 = .ok (.aload_n 0, 1) := by decide +kernel
theorem dX11_nearest_70 : decode cX11_nearest 70 = .ok (.iload 4, 2) := by decide +kernel
theorem dX11_nearest_72 : decode cX11_nearest 72 = .ok (.iload 5, 2) := by decide +kernel
theorem dX11_nearest_74 : decode cX11_nearest 74 = .ok (.aload_n 0, 1) := by decide +kernel
theorem dX11_nearest_75 : decode cX11_nearest 75 = .ok (.iload_n 1, 1) := by decide +kernel
theorem dX11_nearest_76 : decode cX11_nearest 76 = .ok (.iload_n 2, 1) := by decide +kernel
theorem dX11_nearest_77 : decode cX11_nearest 77 = .ok (.invokevirtual 314, 3) := by decide +kernel
theorem dX11_nearest_80 : decode cX11_nearest 80 = .ok (.invokevirtual 317, 3) := by decide +kernel
theorem dX11_nearest_83 : decode cX11_nearest 83 = .ok (.iinc 4 1, 3) := by decide +kernel
theorem dX11_nearest_86 : decode cX11_nearest 86 = .ok (.iinc 5 1, 3) := by decide +kernel
theorem dX11_nearest_89 : decode cX11_nearest 89 = .ok (.goto (-44), 3) := by decide +kernel
theorem dX11_nearest_92 : decode cX11_nearest 92 = .ok (.aload_n 0, 1) := by decide +kernel
theorem dX11_nearest_93 : decode cX11_nearest 93 = .ok (.iload_n 3, 1) := by decide +kernel
theorem dX11_nearest_94 : decode cX11_nearest 94 = .ok (.iload 4, 2) := by decide +kernel
theorem dX11_nearest_96 : decode cX11_nearest 96 = .ok (.invokestatic 122, 3) := by decide +kernel
theorem dX11_nearest_99 : decode cX11_nearest 99 = .ok (.putfield 213, 3) := by decide +kernel
theorem dX11_nearest_102 : decode cX11_nearest 102 = .ok (.aload_n 0, 1) := by decide +kernel
theorem dX11_nearest_103 : decode cX11_nearest 103 = .ok (.getfield 213, 3) := by decide +kernel
theorem dX11_nearest_106 : decode cX11_nearest 106 = .ok (.ireturn, 1) := by decide +kernel
theorem dX11_distanceFromBox_0 : decode cX11_distanceFromBox 0 = .ok (.lconst 0, 1) := by decide +kernel
theorem dX11_distanceFromBox_1 : decode cX11_distanceFromBox 1 = .ok (.aload_n 0, 1) := by decide +kernel
theorem dX11_distanceFromBox_2 : decode cX11_distanceFromBox 2 = .ok (.getfield 94, 3) := by decide +kernel
theorem dX11_distanceFromBox_5 : decode cX11_distanceFromBox 5 = .ok (.iconst 0, 1) := by decide +kernel
theorem dX11_distanceFromBox_6 : decode cX11_distanceFromBox 6 = .ok (.iaload, 1) := by decide +kernel
theorem dX11_distanceFromBox_7 : decode cX11_distanceFromBox 7 = .ok (.i2l, 1) := by decide +kernel
theorem dX11_distanceFromBox_8 : decode cX11_distanceFromBox 8 = .ok (.iload_n 1, 1) := by decide +kernel
theorem dX11_distanceFromBox_9 : decode cX11_distanceFromBox 9 = .ok (.i2l, 1) := by decide +kernel
theorem dX11_distanceFromBox_10 : decode cX11_distanceFromBox 10 = .ok (.lsub, 1) := by decide +kernel
theorem dX11_distanceFromBox_11 : decode cX11_distanceFromBox 11 = .ok (.iload_n 1, 1) := by decide +kernel
theorem dX11_distanceFromBox_12 : decode cX11_distanceFromBox 12 = .ok (.i2l, 1) := by decide +kernel
theorem dX11_distanceFromBox_13 : decode cX11_distanceFromBox 13 = .ok (.aload_n 0, 1) := by decide +kernel
theorem dX11_distanceFromBox_14 : decode cX11_distanceFromBox 14 = .ok (.getfield 94, 3) := by decide +kernel
theorem dX11_distanceFromBox_17 : decode cX11_distanceFromBox 17 = .ok (.iconst 2, 1) := by decide +kernel
theorem dX11_distanceFromBox_18 : decode cX11_distanceFromBox 18 = .ok (.iaload, 1) := by decide +kernel
theorem dX11_distanceFromBox_19 : decode cX11_distanceFromBox 19 = .ok (.i2l, 1) := by decide +kernel
theorem dX11_distanceFromBox_20 : decode cX11_distanceFromBox 20 = .ok (.lsub, 1) := by decide +kernel
theorem dX11_distanceFromBox_21 : decode cX11_distanceFromBox 21 = .ok (.invokestatic 321, 3) := by decide +kernel
theorem dX11_distanceFromBox_24 : decode cX11_distanceFromBox 24 = .ok (.invokestatic 321, 3) := by decide +kernel
theorem dX11_distanceFromBox_27 : decode cX11_distanceFromBox 27 = .ok (.lstore_n 3, 1) := by decide +kernel
theorem dX11_distanceFromBox_28 : decode cX11_distanceFromBox 28 = .ok (.lconst 0, 1) := by decide +kernel
theorem dX11_distanceFromBox_29 : decode cX11_distanceFromBox 29 = .ok (.aload_n 0, 1) := by decide +kernel
theorem dX11_distanceFromBox_30 : decode cX11_distanceFromBox 30 = .ok (.getfield 94, 3) := by decide +kernel
theorem dX11_distanceFromBox_33 : decode cX11_distanceFromBox 33 = .ok (.iconst 1, 1) := by decide +kernel
theorem dX11_distanceFromBox_34 : decode cX11_distanceFromBox 34 = .ok (.iaload, 1) := by decide +kernel
theorem dX11_distanceFromBox_35 : decode cX11_distanceFromBox 35 = .ok (.i2l, 1) := by decide +kernel
theorem dX11_distanceFromBox_36 : decode cX11_distanceFromBox 36 = .ok (.iload_n 2, 1) := by decide +kernel
theorem dX11_distanceFromBox_37 : decode cX11_distanceFromBox 37 = .ok (.i2l, 1) := by decide +kernel
theorem dX11_distanceFromBox_38 : decode cX11_distanceFromBox 38 = .ok (.lsub, 1) := by decide +kernel
theorem dX11_distanceFromBox_39 : decode cX11_distanceFromBox 39 = .ok (.iload_n 2, 1) := by decide +kernel
theorem dX11_distanceFromBox_40 : decode cX11_distanceFromBox 40 = .ok (.i2l, 1) := by decide +kernel
theorem dX11_distanceFromBox_41 : decode cX11_distanceFromBox 41 = .ok (.aload_n 0, 1) := by decide +kernel
theorem dX11_distanceFromBox_42 : decode cX11_distanceFromBox 42 = .ok (.getfield 94, 3) := by decide +kernel
theorem dX11_distanceFromBox_45 : decode cX11_distanceFromBox 45 = .ok (.iconst 3, 1) := by decide +kernel
theorem dX11_distanceFromBox_46 : decode cX11_distanceFromBox 46 = .ok (.iaload, 1) := by decide +kernel
theorem dX11_distanceFromBox_47 : decode cX11_distanceFromBox 47 = .ok (.i2l, 1) := by decide +kernel
theorem dX11_distanceFromBox_48 : decode cX11_distanceFromBox 48 = .ok (.lsub, 1) := by decide +kernel
theorem dX11_distanceFromBox_49 : decode cX11_distanceFromBox 49 = .ok (.invokestatic 321, 3) := by decide +kernel
theorem dX11_distanceFromBox_52 : decode cX11_distanceFromBox 52 = .ok (.invokestatic 321, 3) := by decide +kernel
theorem dX11_distanceFromBox_55 : decode cX11_distanceFromBox 55 = .ok (.lstore 5, 2) := by decide +kernel
theorem dX11_distanceFromBox_57 : decode cX11_distanceFromBox 57 = .ok (.lload_n 3, 1) := by decide +kernel
theorem dX11_distanceFromBox_58 : decode cX11_distanceFromBox 58 = .ok (.lload_n 3, 1) := by decide +kernel
theorem dX11_distanceFromBox_59 : decode cX11_distanceFromBox 59 = .ok (.lmul, 1) := by decide +kernel
theorem dX11_distanceFromBox_60 : decode cX11_distanceFromBox 60 = .ok (.lload 5, 2) := by decide +kernel
theorem dX11_distanceFromBox_62 : decode cX11_distanceFromBox 62 = .ok (.lload 5, 2) := by decide +kernel
theorem dX11_distanceFromBox_64 : decode cX11_distanceFromBox 64 = .ok (.lmul, 1) := by decide +kernel
theorem dX11_distanceFromBox_65 : decode cX11_distanceFromBox 65 = .ok (.ladd, 1) := by decide +kernel
theorem dX11_distanceFromBox_66 : decode cX11_distanceFromBox 66 = .ok (.lreturn, 1) := by decide +kernel
theorem dX11_insertByDistance_0 : decode cX11_insertByDistance 0 = .ok (.iload_n 1, 1) := by decide +kernel
theorem dX11_insertByDistance_1 : decode cX11_insertByDistance 1 = .ok (.istore 5, 2) := by decide +kernel
theorem dX11_insertByDistance_3 : decode cX11_insertByDistance 3 = .ok (.iload 5, 2) := by decide +kernel
theorem dX11_insertByDistance_5 : decode cX11_insertByDistance 5 = .ok (.ifCond .le 55, 3) := by decide +kernel
theorem dX11_insertByDistance_8 : decode cX11_insertByDistance 8 = .ok (.aload_n 0, 1) := by decide +kernel
theorem dX11_insertByDistance_9 : decode cX11_insertByDistance 9 = .ok (.getfield 101, 3) := by decide +kernel
theorem dX11_insertByDistance_12 : decode cX11_insertByDistance 12 = .ok (.iload 5, 2) := by decide +kernel
theorem dX11_insertByDistance_14 : decode cX11_insertByDistance 14 = .ok (.iconst 1, 1) := by decide +kernel
theorem dX11_insertByDistance_15 : decode cX11_insertByDistance 15 = .ok (.isub, 1) := by decide +kernel
theorem dX11_insertByDistance_16 : decode cX11_insertByDistance 16 = .ok (.laload, 1) := by decide +kernel
theorem dX11_insertByDistance_17 : decode cX11_insertByDistance 17 = .ok (.lload_n 3, 1) := by decide +kernel
theorem dX11_insertByDistance_18 : decode cX11_insertByDistance 18 = .ok (.lcmp, 1) := by decide +kernel
theorem dX11_insertByDistance_19 : decode cX11_insertByDistance 19 = .ok (.ifCond .le 41, 3) := by decide +kernel
theorem dX11_insertByDistance_22 : decode cX11_insertByDistance 22 = .ok (.aload_n 0, 1) := by decide +kernel
theorem dX11_insertByDistance_23 : decode cX11_insertByDistance 23 = .ok (.getfield 101, 3) := by decide +kernel
theorem dX11_insertByDistance_26 : decode cX11_insertByDistance 26 = .ok (.iload 5, 2) := by decide +kernel
theorem dX11_insertByDistance_28 : decode cX11_insertByDistance 28 = .ok (.aload_n 0, 1) := by decide +kernel
theorem dX11_insertByDistance_29 : decode cX11_insertByDistance 29 = .ok (.getfield 101, 3) := by decide +kernel
theorem dX11_insertByDistance_32 : decode cX11_insertByDistance 32 = .ok (.iload 5, 2) := by decide +kernel
theorem dX11_insertByDistance_34 : decode cX11_insertByDistance 34 = .ok (.iconst 1, 1) := by decide +kernel
theorem dX11_insertByDistance_35 : decode cX11_insertByDistance 35 = .ok (.isub, 1) := by decide +kernel
theorem dX11_insertByDistance_36 : decode cX11_insertByDistance 36 = .ok (.laload, 1) := by decide +kernel
theorem dX11_insertByDistance_37 : decode cX11_insertByDistance 37 = .ok (.lastore, 1) := by decide +kernel
theorem dX11_insertByDistance_38 : decode cX11_insertByDistance 38 = .ok (.aload_n 0, 1) := by decide +kernel
theorem dX11_insertByDistance_39 : decode cX11_insertByDistance 39 = .ok (.getfield 98, 3) := by decide +kernel
theorem dX11_insertByDistance_42 : decode cX11_insertByDistance 42 = .ok (.iload 5, 2) := by decide +kernel
theorem dX11_insertByDistance_44 : decode cX11_insertByDistance 44 = .ok (.aload_n 0, 1) := by decide +kernel
theorem dX11_insertByDistance_45 : decode cX11_insertByDistance 45 = .ok (.getfield 98, 3) := by decide +kernel
theorem dX11_insertByDistance_48 : decode cX11_insertByDistance 48 = .ok (.iload 5, 2) := by decide +kernel
theorem dX11_insertByDistance_50 : decode cX11_insertByDistance 50 = .ok (.iconst 1, 1) := by decide +kernel
theorem dX11_insertByDistance_51 : decode cX11_insertByDistance 51 = .ok (.isub, 1) := by decide +kernel
theorem dX11_insertByDistance_52 : decode cX11_insertByDistance 52 = .ok (.iaload, 1) := by decide +kernel
theorem dX11_insertByDistance_53 : decode cX11_insertByDistance 53 = .ok (.iastore, 1) := by decide +kernel
theorem dX11_insertByDistance_54 : decode cX11_insertByDistance 54 = .ok (.iinc 5 (-1), 3) := by decide +kernel
theorem dX11_insertByDistance_57 : decode cX11_insertByDistance 57 = .ok (.goto (-54), 3) := by decide +kernel
theorem dX11_insertByDistance_60 : decode cX11_insertByDistance 60 = .ok (.aload_n 0, 1) := by decide +kernel
theorem dX11_insertByDistance_61 : decode cX11_insertByDistance 61 = .ok (.getfield 101, 3) := by decide +kernel
theorem dX11_insertByDistance_64 : decode cX11_insertByDistance 64 = .ok (.iload 5, 2) := by decide +kernel
theorem dX11_insertByDistance_66 : decode cX11_insertByDistance 66 = .ok (.lload_n 3, 1) := by decide +kernel
theorem dX11_insertByDistance_67 : decode cX11_insertByDistance 67 = .ok (.lastore, 1) := by decide +kernel
theorem dX11_insertByDistance_68 : decode cX11_insertByDistance 68 = .ok (.aload_n 0, 1) := by decide +kernel
theorem dX11_insertByDistance_69 : decode cX11_insertByDistance 69 = .ok (.getfield 98, 3) := by decide +kernel
theorem dX11_insertByDistance_72 : decode cX11_insertByDistance 72 = .ok (.iload 5, 2) := by decide +kernel
theorem dX11_insertByDistance_74 : decode cX11_insertByDistance 74 = .ok (.iload_n 2, 1) := by decide +kernel
theorem dX11_insertByDistance_75 : decode cX11_insertByDistance 75 = .ok (.iastore, 1) := by decide +kernel
theorem dX11_insertByDistance_76 : decode cX11_insertByDistance 76 = .ok (.return_, 1) := by decide +kernel
theorem dX11_found_0 : decode cX11_found 0 = .ok (.iload_n 1, 1) := by decide +kernel
theorem dX11_found_1 : decode cX11_found 1 = .ok (.ifCond .lt 11, 3) := by decide +kernel
theorem dX11_found_4 : decode cX11_found 4 = .ok (.iload_n 1, 1) := by decide +kernel
theorem dX11_found_5 : decode cX11_found 5 = .ok (.aload_n 0, 1) := by decide +kernel
theorem dX11_found_6 : decode cX11_found 6 = .ok (.getfield 213, 3) := by decide +kernel
theorem dX11_found_9 : decode cX11_found 9 = .ok (.if_icmp .lt 11, 3) := by decide +kernel
theorem dX11_found_12 : decode cX11_found 12 = .ok (.new 137, 3) := by decide +kernel
theorem dX11_found_15 : decode cX11_found 15 = .ok (.dup, 1) := by decide +kernel
theorem dX11_found_16 : decode cX11_found 16 = .ok (.invokespecial 139, 3) := by decide +kernel
theorem dX11_found_19 : decode cX11_found 19 = .ok (.athrow, 1) := by decide +kernel
theorem dX11_found_20 : decode cX11_found 20 = .ok (.aload_n 0, 1) := by decide +kernel
theorem dX11_found_21 : decode cX11_found 21 = .ok (.getfield 98, 3) := by decide +kernel
theorem dX11_found_24 : decode cX11_found 24 = .ok (.iload_n 1, 1) := by decide +kernel
theorem dX11_found_25 : decode cX11_found 25 = .ok (.iaload, 1) := by decide +kernel
theorem dX11_found_26 : decode cX11_found 26 = .ok (.ireturn, 1) := by decide +kernel
theorem dX11_point_0 : decode cX11_point 0 = .ok (.iload_n 1, 1) := by decide +kernel
theorem dX11_point_1 : decode cX11_point 1 = .ok (.invokestatic 325, 3) := by decide +kernel
theorem dX11_point_4 : decode cX11_point 4 = .ok (.ifCond .eq 11, 3) := by decide +kernel
theorem dX11_point_7 : decode cX11_point 7 = .ok (.new 137, 3) := by decide +kernel
theorem dX11_point_10 : decode cX11_point 10 = .ok (.dup, 1) := by decide +kernel
theorem dX11_point_11 : decode cX11_point 11 = .ok (.invokespecial 139, 3) := by decide +kernel
theorem dX11_point_14 : decode cX11_point 14 = .ok (.athrow, 1) := by decide +kernel
theorem dX11_point_15 : decode cX11_point 15 = .ok (.lload_n 2, 1) := by decide +kernel
theorem dX11_point_16 : decode cX11_point 16 = .ok (.invokestatic 328, 3) := by decide +kernel
theorem dX11_point_19 : decode cX11_point 19 = .ok (.ifCond .ne 11, 3) := by decide +kernel
theorem dX11_point_22 : decode cX11_point 22 = .ok (.lload 4, 2) := by decide +kernel
theorem dX11_point_24 : decode cX11_point 24 = .ok (.invokestatic 328, 3) := by decide +kernel
theorem dX11_point_27 : decode cX11_point 27 = .ok (.ifCond .eq 11, 3) := by decide +kernel
theorem dX11_point_30 : decode cX11_point 30 = .ok (.new 116, 3) := by decide +kernel
theorem dX11_point_33 : decode cX11_point 33 = .ok (.dup, 1) := by decide +kernel
theorem dX11_point_34 : decode cX11_point 34 = .ok (.invokespecial 118, 3) := by decide +kernel
theorem dX11_point_37 : decode cX11_point 37 = .ok (.athrow, 1) := by decide +kernel
theorem dX11_point_38 : decode cX11_point 38 = .ok (.aload_n 0, 1) := by decide +kernel
theorem dX11_point_39 : decode cX11_point 39 = .ok (.getfield 90, 3) := by decide +kernel
theorem dX11_point_42 : decode cX11_point 42 = .ok (.getfield 332, 3) := by decide +kernel
theorem dX11_point_45 : decode cX11_point 45 = .ok (.iload_n 1, 1) := by decide +kernel
theorem dX11_point_46 : decode cX11_point 46 = .ok (.lload_n 2, 1) := by decide +kernel
theorem dX11_point_47 : decode cX11_point 47 = .ok (.lastore, 1) := by decide +kernel
theorem dX11_point_48 : decode cX11_point 48 = .ok (.aload_n 0, 1) := by decide +kernel
theorem dX11_point_49 : decode cX11_point 49 = .ok (.getfield 90, 3) := by decide +kernel
theorem dX11_point_52 : decode cX11_point 52 = .ok (.getfield 334, 3) := by decide +kernel
theorem dX11_point_55 : decode cX11_point 55 = .ok (.iload_n 1, 1) := by decide +kernel
theorem dX11_point_56 : decode cX11_point 56 = .ok (.lload 4, 2) := by decide +kernel
theorem dX11_point_58 : decode cX11_point 58 = .ok (.lastore, 1) := by decide +kernel
theorem dX11_point_59 : decode cX11_point 59 = .ok (.return_, 1) := by decide +kernel
theorem dX11_isNoSignPoint_0 : decode cX11_isNoSignPoint 0 = .ok (.iload_n 0, 1) := by decide +kernel
theorem dX11_isNoSignPoint_1 : decode cX11_isNoSignPoint 1 = .ok (.ifCond .lt 9, 3) := by decide +kernel
theorem dX11_isNoSignPoint_4 : decode cX11_isNoSignPoint 4 = .ok (.iload_n 0, 1) := by decide +kernel
theorem dX11_isNoSignPoint_5 : decode cX11_isNoSignPoint 5 = .ok (.bipush 32, 2) := by decide +kernel
theorem dX11_isNoSignPoint_7 : decode cX11_isNoSignPoint 7 = .ok (.if_icmp .lt 7, 3) := by decide +kernel
theorem dX11_isNoSignPoint_10 : decode cX11_isNoSignPoint 10 = .ok (.iconst 1, 1) := by decide +kernel
theorem dX11_isNoSignPoint_11 : decode cX11_isNoSignPoint 11 = .ok (.goto 4, 3) := by decide +kernel
theorem dX11_isNoSignPoint_14 : decode cX11_isNoSignPoint 14 = .ok (.iconst 0, 1) := by decide +kernel
theorem dX11_isNoSignPoint_15 : decode cX11_isNoSignPoint 15 = .ok (.ireturn, 1) := by decide +kernel
theorem dX11_isNoNumber_0 : decode cX11_isNoNumber 0 = .ok (.lload_n 0, 1) := by decide +kernel
theorem dX11_isNoNumber_1 : decode cX11_isNoNumber 1 = .ok (.bipush 52, 2) := by decide +kernel
theorem dX11_isNoNumber_3 : decode cX11_isNoNumber 3 = .ok (.lushr, 1) := by decide +kernel
theorem dX11_isNoNumber_4 : decode cX11_isNoNumber 4 = .ok (.ldc2_w 336, 3) := by decide +kernel
theorem dX11_isNoNumber_7 : decode cX11_isNoNumber 7 = .ok (.land, 1) := by decide +kernel
theorem dX11_isNoNumber_8 : decode cX11_isNoNumber 8 = .ok (.ldc2_w 336, 3) := by decide +kernel
theorem dX11_isNoNumber_11 : decode cX11_isNoNumber 11 = .ok (.lcmp, 1) := by decide +kernel
theorem dX11_isNoNumber_12 : decode cX11_isNoNumber 12 = .ok (.ifCond .ne 7, 3) := by decide +kernel
theorem dX11_isNoNumber_15 : decode cX11_isNoNumber 15 = .ok (.iconst 1, 1) := by decide +kernel
theorem dX11_isNoNumber_16 : decode cX11_isNoNumber 16 = .ok (.goto 4, 3) := by decide +kernel
theorem dX11_isNoNumber_19 : decode cX11_isNoNumber 19 = .ok (.iconst 0, 1) := by decide +kernel
theorem dX11_isNoNumber_20 : decode cX11_isNoNumber 20 = .ok (.ireturn, 1) := by decide +kernel
theorem dX11_side_0 : decode cX11_side 0 = .ok (.iload_n 1, 1) := by decide +kernel
theorem dX11_side_1 : decode cX11_side 1 = .ok (.invokestatic 325, 3) := by decide +kernel
theorem dX11_side_4 : decode cX11_side 4 = .ok (.ifCond .ne 17, 3) := by decide +kernel
theorem dX11_side_7 : decode cX11_side 7 = .ok (.iload_n 2, 1) := by decide +kernel
theorem dX11_side_8 : decode cX11_side 8 = .ok (.invokestatic 325, 3) := by decide +kernel
theorem dX11_side_11 : decode cX11_side 11 = .ok (.ifCond .ne 10, 3) := by decide +kernel
theorem dX11_side_14 : decode cX11_side 14 = .ok (.iload_n 3, 1) := by decide +kernel
theorem dX11_side_15 : decode cX11_side 15 = .ok (.invokestatic 325, 3) := by decide +kernel
theorem dX11_side_18 : decode cX11_side 18 = .ok (.ifCond .eq 11, 3) := by decide +kernel
theorem dX11_side_21 : decode cX11_side 21 = .ok (.new 137, 3) := by decide +kernel
theorem dX11_side_24 : decode cX11_side 24 = .ok (.dup, 1) := by decide +kernel
theorem dX11_side_25 : decode cX11_side 25 = .ok (.invokespecial 139, 3) := by decide +kernel
theorem dX11_side_28 : decode cX11_side 28 = .ok (.athrow, 1) := by decide +kernel
theorem dX11_side_29 : decode cX11_side 29 = .ok (.aload_n 0, 1) := by decide +kernel
theorem dX11_side_30 : decode cX11_side 30 = .ok (.getfield 90, 3) := by decide +kernel
theorem dX11_side_33 : decode cX11_side 33 = .ok (.iload_n 1, 1) := by decide +kernel
theorem dX11_side_34 : decode cX11_side 34 = .ok (.iload_n 2, 1) := by decide +kernel
theorem dX11_side_35 : decode cX11_side 35 = .ok (.iload_n 3, 1) := by decide +kernel
theorem dX11_side_36 : decode cX11_side 36 = .ok (.invokevirtual 338, 3) := by decide +kernel
theorem dX11_side_39 : decode cX11_side 39 = .ok (.ireturn, 1) := by decide +kernel
theorem dX11_circle_0 : decode cX11_circle 0 = .ok (.iload_n 1, 1) := by decide +kernel
theorem dX11_circle_1 : decode cX11_circle 1 = .ok (.invokestatic 325, 3) := by decide +kernel
theorem dX11_circle_4 : decode cX11_circle 4 = .ok (.ifCond .ne 25, 3) := by decide +kernel
theorem dX11_circle_7 : decode cX11_circle 7 = .ok (.iload_n 2, 1) := by decide +kernel
theorem dX11_circle_8 : decode cX11_circle 8 = .ok (.invokestatic 325, 3) := by decide +kernel
theorem dX11_circle_11 : decode cX11_circle 11 = .ok (.ifCond .ne 18, 3) := by decide +kernel
theorem dX11_circle_14 : decode cX11_circle 14 = .ok (.iload_n 3, 1) := by decide +kernel
theorem dX11_circle_15 : decode cX11_circle 15 = .ok (.invokestatic 325, 3) := by decide +kernel
theorem dX11_circle_18 : decode cX11_circle 18 = .ok (.ifCond .ne 11, 3) := by decide +kernel
theorem dX11_circle_21 : decode cX11_circle 21 = .ok (.iload 4, 2) := by decide +kernel
theorem dX11_circle_23 : decode cX11_circle 23 = .ok (.invokestatic 325, 3) := by decide +kernel
theorem dX11_circle_26 : decode cX11_circle 26 = .ok (.ifCond .eq 11, 3) := by decide +kernel
theorem dX11_circle_29 : decode cX11_circle 29 = .ok (.new 137, 3) := by decide +kernel
theorem dX11_circle_32 : decode cX11_circle 32 = .ok (.dup, 1) := by decide +kernel
theorem dX11_circle_33 : decode cX11_circle 33 = .ok (.invokespecial 139, 3) := by decide +kernel
theorem dX11_circle_36 : decode cX11_circle 36 = .ok (.athrow, 1) := by decide +kernel
theorem dX11_circle_37 : decode cX11_circle 37 = .ok (.aload_n 0, 1) := by decide +kernel
theorem dX11_circle_38 : decode cX11_circle 38 = .ok (.getfield 90, 3) := by decide +kernel
theorem dX11_circle_41 : decode cX11_circle 41 = .ok (.iload_n 1, 1) := by decide +kernel
theorem dX11_circle_42 : decode cX11_circle 42 = .ok (.iload_n 2, 1) := by decide +kernel
theorem dX11_circle_43 : decode cX11_circle 43 = .ok (.iload_n 3, 1) := by decide +kernel
theorem dX11_circle_44 : decode cX11_circle 44 = .ok (.iload 4, 2) := by decide +kernel
theorem dX11_circle_46 : decode cX11_circle 46 = .ok (.invokevirtual 342, 3) := by decide +kernel
theorem dX11_circle_49 : decode cX11_circle 49 = .ok (.ireturn, 1) := by decide +kernel
theorem dX11_turnOf_0 : decode cX11_turnOf 0 = .ok (.lload 4, 2) := by decide +kernel
theorem dX11_turnOf_2 : decode cX11_turnOf 2 = .ok (.lload_n 0, 1) := by decide +kernel
theorem dX11_turnOf_3 : decode cX11_turnOf 3 = .ok (.lsub, 1) := by decide +kernel
theorem dX11_turnOf_4 : decode cX11_turnOf 4 = .ok (.lload 10, 2) := by decide +kernel
theorem dX11_turnOf_6 : decode cX11_turnOf 6 = .ok (.lload_n 2, 1) := by decide +kernel
theorem dX11_turnOf_7 : decode cX11_turnOf 7 = .ok (.lsub, 1) := by decide +kernel
theorem dX11_turnOf_8 : decode cX11_turnOf 8 = .ok (.lmul, 1) := by decide +kernel
theorem dX11_turnOf_9 : decode cX11_turnOf 9 = .ok (.lload 6, 2) := by decide +kernel
theorem dX11_turnOf_11 : decode cX11_turnOf 11 = .ok (.lload_n 2, 1) := by decide +kernel
theorem dX11_turnOf_12 : decode cX11_turnOf 12 = .ok (.lsub, 1) := by decide +kernel
theorem dX11_turnOf_13 : decode cX11_turnOf 13 = .ok (.lload 8, 2) := by decide +kernel
theorem dX11_turnOf_15 : decode cX11_turnOf 15 = .ok (.lload_n 0, 1) := by decide +kernel
theorem dX11_turnOf_16 : decode cX11_turnOf 16 = .ok (.lsub, 1) := by decide +kernel
theorem dX11_turnOf_17 : decode cX11_turnOf 17 = .ok (.lmul, 1) := by decide +kernel
theorem dX11_turnOf_18 : decode cX11_turnOf 18 = .ok (.invokestatic 346, 3) := by decide +kernel
theorem dX11_turnOf_21 : decode cX11_turnOf 21 = .ok (.ireturn, 1) := by decide +kernel
theorem dX11_isOnSegment_0 : decode cX11_isOnSegment 0 = .ok (.iload 4, 2) := by decide +kernel
theorem dX11_isOnSegment_2 : decode cX11_isOnSegment 2 = .ok (.iload_n 0, 1) := by decide +kernel
theorem dX11_isOnSegment_3 : decode cX11_isOnSegment 3 = .ok (.iload_n 2, 1) := by decide +kernel
theorem dX11_isOnSegment_4 : decode cX11_isOnSegment 4 = .ok (.invokestatic 122, 3) := by decide +kernel
theorem dX11_isOnSegment_7 : decode cX11_isOnSegment 7 = .ok (.if_icmp .lt 57, 3) := by decide +kernel
theorem dX11_isOnSegment_10 : decode cX11_isOnSegment 10 = .ok (.iload 4, 2) := by decide +kernel
theorem dX11_isOnSegment_12 : decode cX11_isOnSegment 12 = .ok (.iload_n 0, 1) := by decide +kernel
theorem dX11_isOnSegment_13 : decode cX11_isOnSegment 13 = .ok (.iload_n 2, 1) := by decide +kernel
theorem dX11_isOnSegment_14 : decode cX11_isOnSegment 14 = .ok (.invokestatic 352, 3) := by decide +kernel
theorem dX11_isOnSegment_17 : decode cX11_isOnSegment 17 = .ok (.if_icmp .gt 47, 3) := by decide +kernel
theorem dX11_isOnSegment_20 : decode cX11_isOnSegment 20 = .ok (.iload 5, 2) := by decide +kernel
theorem dX11_isOnSegment_22 : decode cX11_isOnSegment 22 = .ok (.iload_n 1, 1) := by decide +kernel
theorem dX11_isOnSegment_23 : decode cX11_isOnSegment 23 = .ok (.iload_n 3, 1) := by decide +kernel
theorem dX11_isOnSegment_24 : decode cX11_isOnSegment 24 = .ok (.invokestatic 122, 3) := by decide +kernel
theorem dX11_isOnSegment_27 : decode cX11_isOnSegment 27 = .ok (.if_icmp .lt 37, 3) := by decide +kernel
theorem dX11_isOnSegment_30 : decode cX11_isOnSegment 30 = .ok (.iload 5, 2) := by decide +kernel
theorem dX11_isOnSegment_32 : decode cX11_isOnSegment 32 = .ok (.iload_n 1, 1) := by decide +kernel
theorem dX11_isOnSegment_33 : decode cX11_isOnSegment 33 = .ok (.iload_n 3, 1) := by decide +kernel
theorem dX11_isOnSegment_34 : decode cX11_isOnSegment 34 = .ok (.invokestatic 352, 3) := by decide +kernel
theorem dX11_isOnSegment_37 : decode cX11_isOnSegment 37 = .ok (.if_icmp .gt 27, 3) := by decide +kernel
theorem dX11_isOnSegment_40 : decode cX11_isOnSegment 40 = .ok (.iload_n 0, 1) := by decide +kernel
theorem dX11_isOnSegment_41 : decode cX11_isOnSegment 41 = .ok (.i2l, 1) := by decide +kernel
theorem dX11_isOnSegment_42 : decode cX11_isOnSegment 42 = .ok (.iload_n 1, 1) := by decide +kernel
theorem dX11_isOnSegment_43 : decode cX11_isOnSegment 43 = .ok (.i2l, 1) := by decide +kernel
theorem dX11_isOnSegment_44 : decode cX11_isOnSegment 44 = .ok (.iload_n 2, 1) := by decide +kernel
theorem dX11_isOnSegment_45 : decode cX11_isOnSegment 45 = .ok (.i2l, 1) := by decide +kernel
theorem dX11_isOnSegment_46 : decode cX11_isOnSegment 46 = .ok (.iload_n 3, 1) := by decide +kernel
theorem dX11_isOnSegment_47 : decode cX11_isOnSegment 47 = .ok (.i2l, 1) := by decide +kernel
theorem dX11_isOnSegment_48 : decode cX11_isOnSegment 48 = .ok (.iload 4, 2) := by decide +kernel
theorem dX11_isOnSegment_50 : decode cX11_isOnSegment 50 = .ok (.i2l, 1) := by decide +kernel
theorem dX11_isOnSegment_51 : decode cX11_isOnSegment 51 = .ok (.iload 5, 2) := by decide +kernel
theorem dX11_isOnSegment_53 : decode cX11_isOnSegment 53 = .ok (.i2l, 1) := by decide +kernel
theorem dX11_isOnSegment_54 : decode cX11_isOnSegment 54 = .ok (.invokestatic 354, 3) := by decide +kernel
theorem dX11_isOnSegment_57 : decode cX11_isOnSegment 57 = .ok (.ifCond .ne 7, 3) := by decide +kernel
theorem dX11_isOnSegment_60 : decode cX11_isOnSegment 60 = .ok (.iconst 1, 1) := by decide +kernel
theorem dX11_isOnSegment_61 : decode cX11_isOnSegment 61 = .ok (.goto 4, 3) := by decide +kernel
theorem dX11_isOnSegment_64 : decode cX11_isOnSegment 64 = .ok (.iconst 0, 1) := by decide +kernel
theorem dX11_isOnSegment_65 : decode cX11_isOnSegment 65 = .ok (.ireturn, 1) := by decide +kernel
theorem dX11_isCrossedFrom_0 : decode cX11_isCrossedFrom 0 = .ok (.iload_n 3, 1) := by decide +kernel
theorem dX11_isCrossedFrom_1 : decode cX11_isCrossedFrom 1 = .ok (.iload 5, 2) := by decide +kernel
theorem dX11_isCrossedFrom_3 : decode cX11_isCrossedFrom 3 = .ok (.if_icmp .le 7, 3) := by decide +kernel
theorem dX11_isCrossedFrom_6 : decode cX11_isCrossedFrom 6 = .ok (.iconst 1, 1) := by decide +kernel
theorem dX11_isCrossedFrom_7 : decode cX11_isCrossedFrom 7 = .ok (.goto 4, 3) := by decide +kernel
theorem dX11_isCrossedFrom_10 : decode cX11_isCrossedFrom 10 = .ok (.iconst 0, 1) := by decide +kernel
theorem dX11_isCrossedFrom_11 : decode cX11_isCrossedFrom 11 = .ok (.istore 6, 2) := by decide +kernel
theorem dX11_isCrossedFrom_13 : decode cX11_isCrossedFrom 13 = .ok (.iload_n 1, 1) := by decide +kernel
theorem dX11_isCrossedFrom_14 : decode cX11_isCrossedFrom 14 = .ok (.iload 5, 2) := by decide +kernel
theorem dX11_isCrossedFrom_16 : decode cX11_isCrossedFrom 16 = .ok (.if_icmp .le 7, 3) := by decide +kernel
theorem dX11_isCrossedFrom_19 : decode cX11_isCrossedFrom 19 = .ok (.iconst 1, 1) := by decide +kernel
theorem dX11_isCrossedFrom_20 : decode cX11_isCrossedFrom 20 = .ok (.goto 4, 3) := by decide +kernel
theorem dX11_isCrossedFrom_23 : decode cX11_isCrossedFrom 23 = .ok (.iconst 0, 1) := by decide +kernel
theorem dX11_isCrossedFrom_24 : decode cX11_isCrossedFrom 24 = .ok (.iload 6, 2) := by decide +kernel
theorem dX11_isCrossedFrom_26 : decode cX11_isCrossedFrom 26 = .ok (.if_icmp .ne 5, 3) := by decide +kernel
theorem dX11_isCrossedFrom_29 : decode cX11_isCrossedFrom 29 = .ok (.iconst 0, 1) := by decide +kernel
theorem dX11_isCrossedFrom_30 : decode cX11_isCrossedFrom 30 = .ok (.ireturn, 1) := by decide +kernel
theorem dX11_isCrossedFrom_31 : decode cX11_isCrossedFrom 31 = .ok (.iload_n 0, 1) := by decide +kernel
theorem dX11_isCrossedFrom_32 : decode cX11_isCrossedFrom 32 = .ok (.i2l, 1) := by decide +kernel
theorem dX11_isCrossedFrom_33 : decode cX11_isCrossedFrom 33 = .ok (.iload_n 1, 1) := by decide +kernel
theorem dX11_isCrossedFrom_34 : decode cX11_isCrossedFrom 34 = .ok (.i2l, 1) := by decide +kernel
theorem dX11_isCrossedFrom_35 : decode cX11_isCrossedFrom 35 = .ok (.iload_n 2, 1) := by decide +kernel
theorem dX11_isCrossedFrom_36 : decode cX11_isCrossedFrom 36 = .ok (.i2l, 1) := by decide +kernel
theorem dX11_isCrossedFrom_37 : decode cX11_isCrossedFrom 37 = .ok (.iload_n 3, 1) := by decide +kernel
theorem dX11_isCrossedFrom_38 : decode cX11_isCrossedFrom 38 = .ok (.i2l, 1) := by decide +kernel
theorem dX11_isCrossedFrom_39 : decode cX11_isCrossedFrom 39 = .ok (.iload 4, 2) := by decide +kernel
theorem dX11_isCrossedFrom_41 : decode cX11_isCrossedFrom 41 = .ok (.i2l, 1) := by decide +kernel
theorem dX11_isCrossedFrom_42 : decode cX11_isCrossedFrom 42 = .ok (.iload 5, 2) := by decide +kernel
theorem dX11_isCrossedFrom_44 : decode cX11_isCrossedFrom 44 = .ok (.i2l, 1) := by decide +kernel
theorem dX11_isCrossedFrom_45 : decode cX11_isCrossedFrom 45 = .ok (.invokestatic 354, 3) := by decide +kernel
theorem dX11_isCrossedFrom_48 : decode cX11_isCrossedFrom 48 = .ok (.istore 7, 2) := by decide +kernel
theorem dX11_isCrossedFrom_50 : decode cX11_isCrossedFrom 50 = .ok (.iload 6, 2) := by decide +kernel
theorem dX11_isCrossedFrom_52 : decode cX11_isCrossedFrom 52 = .ok (.ifCond .eq 16, 3) := by decide +kernel
theorem dX11_isCrossedFrom_55 : decode cX11_isCrossedFrom 55 = .ok (.iload 7, 2) := by decide +kernel
theorem dX11_isCrossedFrom_57 : decode cX11_isCrossedFrom 57 = .ok (.ifCond .le 7, 3) := by decide +kernel
theorem dX11_isCrossedFrom_60 : decode cX11_isCrossedFrom 60 = .ok (.iconst 1, 1) := by decide +kernel
theorem dX11_isCrossedFrom_61 : decode cX11_isCrossedFrom 61 = .ok (.goto 17, 3) := by decide +kernel
theorem dX11_isCrossedFrom_64 : decode cX11_isCrossedFrom 64 = .ok (.iconst 0, 1) := by decide +kernel
theorem dX11_isCrossedFrom_65 : decode cX11_isCrossedFrom 65 = .ok (.goto 13, 3) := by decide +kernel
theorem dX11_isCrossedFrom_68 : decode cX11_isCrossedFrom 68 = .ok (.iload 7, 2) := by decide +kernel
theorem dX11_isCrossedFrom_70 : decode cX11_isCrossedFrom 70 = .ok (.ifCond .ge 7, 3) := by decide +kernel
theorem dX11_isCrossedFrom_73 : decode cX11_isCrossedFrom 73 = .ok (.iconst 1, 1) := by decide +kernel
theorem dX11_isCrossedFrom_74 : decode cX11_isCrossedFrom 74 = .ok (.goto 4, 3) := by decide +kernel
theorem dX11_isCrossedFrom_77 : decode cX11_isCrossedFrom 77 = .ok (.iconst 0, 1) := by decide +kernel
theorem dX11_isCrossedFrom_78 : decode cX11_isCrossedFrom 78 = .ok (.ireturn, 1) := by decide +kernel
theorem dX11_signOfSum_0 : decode cX11_signOfSum 0 = .ok (.lload_n 0, 1) := by decide +kernel
theorem dX11_signOfSum_1 : decode cX11_signOfSum 1 = .ok (.lload_n 2, 1) := by decide +kernel
theorem dX11_signOfSum_2 : decode cX11_signOfSum 2 = .ok (.lmul, 1) := by decide +kernel
theorem dX11_signOfSum_3 : decode cX11_signOfSum 3 = .ok (.lstore 12, 2) := by decide +kernel
theorem dX11_signOfSum_5 : decode cX11_signOfSum 5 = .ok (.lload_n 0, 1) := by decide +kernel
theorem dX11_signOfSum_6 : decode cX11_signOfSum 6 = .ok (.lload_n 2, 1) := by decide +kernel
theorem dX11_signOfSum_7 : decode cX11_signOfSum 7 = .ok (.invokestatic 358, 3) := by decide +kernel
theorem dX11_signOfSum_10 : decode cX11_signOfSum 10 = .ok (.lstore 14, 2) := by decide +kernel
theorem dX11_signOfSum_12 : decode cX11_signOfSum 12 = .ok (.lload 4, 2) := by decide +kernel
theorem dX11_signOfSum_14 : decode cX11_signOfSum 14 = .ok (.lload 6, 2) := by decide +kernel
theorem dX11_signOfSum_16 : decode cX11_signOfSum 16 = .ok (.lmul, 1) := by decide +kernel
theorem dX11_signOfSum_17 : decode cX11_signOfSum 17 = .ok (.lstore 16, 2) := by decide +kernel
theorem dX11_signOfSum_19 : decode cX11_signOfSum 19 = .ok (.lload 12, 2) := by decide +kernel
theorem dX11_signOfSum_21 : decode cX11_signOfSum 21 = .ok (.lload 16, 2) := by decide +kernel
theorem dX11_signOfSum_23 : decode cX11_signOfSum 23 = .ok (.ladd, 1) := by decide +kernel
theorem dX11_signOfSum_24 : decode cX11_signOfSum 24 = .ok (.lstore 12, 2) := by decide +kernel
theorem dX11_signOfSum_26 : decode cX11_signOfSum 26 = .ok (.lload 14, 2) := by decide +kernel
theorem dX11_signOfSum_28 : decode cX11_signOfSum 28 = .ok (.lload 4, 2) := by decide +kernel
theorem dX11_signOfSum_30 : decode cX11_signOfSum 30 = .ok (.lload 6, 2) := by decide +kernel
theorem dX11_signOfSum_32 : decode cX11_signOfSum 32 = .ok (.invokestatic 358, 3) := by decide +kernel
theorem dX11_signOfSum_35 : decode cX11_signOfSum 35 = .ok (.lload 12, 2) := by decide +kernel
theorem dX11_signOfSum_37 : decode cX11_signOfSum 37 = .ok (.lload 16, 2) := by decide +kernel
theorem dX11_signOfSum_39 : decode cX11_signOfSum 39 = .ok (.invokestatic 361, 3) := by decide +kernel
theorem dX11_signOfSum_42 : decode cX11_signOfSum 42 = .ok (.i2l, 1) := by decide +kernel
theorem dX11_signOfSum_43 : decode cX11_signOfSum 43 = .ok (.ladd, 1) := by decide +kernel
theorem dX11_signOfSum_44 : decode cX11_signOfSum 44 = .ok (.ladd, 1) := by decide +kernel
theorem dX11_signOfSum_45 : decode cX11_signOfSum 45 = .ok (.lstore 14, 2) := by decide +kernel
theorem dX11_signOfSum_47 : decode cX11_signOfSum 47 = .ok (.lload 8, 2) := by decide +kernel
theorem dX11_signOfSum_49 : decode cX11_signOfSum 49 = .ok (.lload 10, 2) := by decide +kernel
theorem dX11_signOfSum_51 : decode cX11_signOfSum 51 = .ok (.lmul, 1) := by decide +kernel
theorem dX11_signOfSum_52 : decode cX11_signOfSum 52 = .ok (.lstore 16, 2) := by decide +kernel
theorem dX11_signOfSum_54 : decode cX11_signOfSum 54 = .ok (.lload 12, 2) := by decide +kernel
theorem dX11_signOfSum_56 : decode cX11_signOfSum 56 = .ok (.lload 16, 2) := by decide +kernel
theorem dX11_signOfSum_58 : decode cX11_signOfSum 58 = .ok (.ladd, 1) := by decide +kernel
theorem dX11_signOfSum_59 : decode cX11_signOfSum 59 = .ok (.lstore 12, 2) := by decide +kernel
theorem dX11_signOfSum_61 : decode cX11_signOfSum 61 = .ok (.lload 14, 2) := by decide +kernel
theorem dX11_signOfSum_63 : decode cX11_signOfSum 63 = .ok (.lload 8, 2) := by decide +kernel
theorem dX11_signOfSum_65 : decode cX11_signOfSum 65 = .ok (.lload 10, 2) := by decide +kernel
theorem dX11_signOfSum_67 : decode cX11_signOfSum 67 = .ok (.invokestatic 358, 3) := by decide +kernel
theorem dX11_signOfSum_70 : decode cX11_signOfSum 70 = .ok (.lload 12, 2) := by decide +kernel
theorem dX11_signOfSum_72 : decode cX11_signOfSum 72 = .ok (.lload 16, 2) := by decide +kernel
theorem dX11_signOfSum_74 : decode cX11_signOfSum 74 = .ok (.invokestatic 361, 3) := by decide +kernel
theorem dX11_signOfSum_77 : decode cX11_signOfSum 77 = .ok (.i2l, 1) := by decide +kernel
theorem dX11_signOfSum_78 : decode cX11_signOfSum 78 = .ok (.ladd, 1) := by decide +kernel
theorem dX11_signOfSum_79 : decode cX11_signOfSum 79 = .ok (.ladd, 1) := by decide +kernel
theorem dX11_signOfSum_80 : decode cX11_signOfSum 80 = .ok (.lstore 14, 2) := by decide +kernel
theorem dX11_signOfSum_82 : decode cX11_signOfSum 82 = .ok (.lload 14, 2) := by decide +kernel
theorem dX11_signOfSum_84 : decode cX11_signOfSum 84 = .ok (.lconst 0, 1) := by decide +kernel
theorem dX11_signOfSum_85 : decode cX11_signOfSum 85 = .ok (.lcmp, 1) := by decide +kernel
theorem dX11_signOfSum_86 : decode cX11_signOfSum 86 = .ok (.ifCond .eq 12, 3) := by decide +kernel
theorem dX11_signOfSum_89 : decode cX11_signOfSum 89 = .ok (.lload 14, 2) := by decide +kernel
theorem dX11_signOfSum_91 : decode cX11_signOfSum 91 = .ok (.lconst 0, 1) := by decide +kernel
theorem dX11_signOfSum_92 : decode cX11_signOfSum 92 = .ok (.invokestatic 346, 3) := by decide +kernel
theorem dX11_signOfSum_95 : decode cX11_signOfSum 95 = .ok (.goto 15, 3) := by decide +kernel
theorem dX11_signOfSum_98 : decode cX11_signOfSum 98 = .ok (.lload 12, 2) := by decide +kernel
theorem dX11_signOfSum_100 : decode cX11_signOfSum 100 = .ok (.lconst 0, 1) := by decide +kernel
theorem dX11_signOfSum_101 : decode cX11_signOfSum 101 = .ok (.lcmp, 1) := by decide +kernel
theorem dX11_signOfSum_102 : decode cX11_signOfSum 102 = .ok (.ifCond .eq 7, 3) := by decide +kernel
theorem dX11_signOfSum_105 : decode cX11_signOfSum 105 = .ok (.iconst 1, 1) := by decide +kernel
theorem dX11_signOfSum_106 : decode cX11_signOfSum 106 = .ok (.goto 4, 3) := by decide +kernel
theorem dX11_signOfSum_109 : decode cX11_signOfSum 109 = .ok (.iconst 0, 1) := by decide +kernel
theorem dX11_signOfSum_110 : decode cX11_signOfSum 110 = .ok (.ireturn, 1) := by decide +kernel
theorem dX11_carryOf_0 : decode cX11_carryOf 0 = .ok (.lload_n 0, 1) := by decide +kernel
theorem dX11_carryOf_1 : decode cX11_carryOf 1 = .ok (.ldc2_w 364, 3) := by decide +kernel
theorem dX11_carryOf_4 : decode cX11_carryOf 4 = .ok (.ladd, 1) := by decide +kernel
theorem dX11_carryOf_5 : decode cX11_carryOf 5 = .ok (.lload_n 2, 1) := by decide +kernel
theorem dX11_carryOf_6 : decode cX11_carryOf 6 = .ok (.ldc2_w 364, 3) := by decide +kernel
theorem dX11_carryOf_9 : decode cX11_carryOf 9 = .ok (.ladd, 1) := by decide +kernel
theorem dX11_carryOf_10 : decode cX11_carryOf 10 = .ok (.lcmp, 1) := by decide +kernel
theorem dX11_carryOf_11 : decode cX11_carryOf 11 = .ok (.ifCond .ge 7, 3) := by decide +kernel
theorem dX11_carryOf_14 : decode cX11_carryOf 14 = .ok (.iconst 1, 1) := by decide +kernel
theorem dX11_carryOf_15 : decode cX11_carryOf 15 = .ok (.goto 4, 3) := by decide +kernel
theorem dX11_carryOf_18 : decode cX11_carryOf 18 = .ok (.iconst 0, 1) := by decide +kernel
theorem dX11_carryOf_19 : decode cX11_carryOf 19 = .ok (.ireturn, 1) := by decide +kernel
theorem dX11_highOf_0 : decode cX11_highOf 0 = .ok (.ldc2_w 366, 3) := by decide +kernel
theorem dX11_highOf_3 : decode cX11_highOf 3 = .ok (.lstore 4, 2) := by decide +kernel
theorem dX11_highOf_5 : decode cX11_highOf 5 = .ok (.lload_n 0, 1) := by decide +kernel
theorem dX11_highOf_6 : decode cX11_highOf 6 = .ok (.lload 4, 2) := by decide +kernel
theorem dX11_highOf_8 : decode cX11_highOf 8 = .ok (.land, 1) := by decide +kernel
theorem dX11_highOf_9 : decode cX11_highOf 9 = .ok (.lstore 6, 2) := by decide +kernel
theorem dX11_highOf_11 : decode cX11_highOf 11 = .ok (.lload_n 0, 1) := by decide +kernel
theorem dX11_highOf_12 : decode cX11_highOf 12 = .ok (.bipush 32, 2) := by decide +kernel
theorem dX11_highOf_14 : decode cX11_highOf 14 = .ok (.lshr, 1) := by decide +kernel
theorem dX11_highOf_15 : decode cX11_highOf 15 = .ok (.lstore 8, 2) := by decide +kernel
theorem dX11_highOf_17 : decode cX11_highOf 17 = .ok (.lload_n 2, 1) := by decide +kernel
theorem dX11_highOf_18 : decode cX11_highOf 18 = .ok (.lload 4, 2) := by decide +kernel
theorem dX11_highOf_20 : decode cX11_highOf 20 = .ok (.land, 1) := by decide +kernel
theorem dX11_highOf_21 : decode cX11_highOf 21 = .ok (.lstore 10, 2) := by decide +kernel
theorem dX11_highOf_23 : decode cX11_highOf 23 = .ok (.lload_n 2, 1) := by decide +kernel
theorem dX11_highOf_24 : decode cX11_highOf 24 = .ok (.bipush 32, 2) := by decide +kernel
theorem dX11_highOf_26 : decode cX11_highOf 26 = .ok (.lshr, 1) := by decide +kernel
theorem dX11_highOf_27 : decode cX11_highOf 27 = .ok (.lstore 12, 2) := by decide +kernel
theorem dX11_highOf_29 : decode cX11_highOf 29 = .ok (.lload 8, 2) := by decide +kernel
theorem dX11_highOf_31 : decode cX11_highOf 31 = .ok (.lload 10, 2) := by decide +kernel
theorem dX11_highOf_33 : decode cX11_highOf 33 = .ok (.lmul, 1) := by decide +kernel
theorem dX11_highOf_34 : decode cX11_highOf 34 = .ok (.lload 6, 2) := by decide +kernel
theorem dX11_highOf_36 : decode cX11_highOf 36 = .ok (.lload 10, 2) := by decide +kernel
theorem dX11_highOf_38 : decode cX11_highOf 38 = .ok (.lmul, 1) := by decide +kernel
theorem dX11_highOf_39 : decode cX11_highOf 39 = .ok (.bipush 32, 2) := by decide +kernel
theorem dX11_highOf_41 : decode cX11_highOf 41 = .ok (.lushr, 1) := by decide +kernel
theorem dX11_highOf_42 : decode cX11_highOf 42 = .ok (.ladd, 1) := by decide +kernel
theorem dX11_highOf_43 : decode cX11_highOf 43 = .ok (.lstore 14, 2) := by decide +kernel
theorem dX11_highOf_45 : decode cX11_highOf 45 = .ok (.lload 6, 2) := by decide +kernel
theorem dX11_highOf_47 : decode cX11_highOf 47 = .ok (.lload 12, 2) := by decide +kernel
theorem dX11_highOf_49 : decode cX11_highOf 49 = .ok (.lmul, 1) := by decide +kernel
theorem dX11_highOf_50 : decode cX11_highOf 50 = .ok (.lload 14, 2) := by decide +kernel
theorem dX11_highOf_52 : decode cX11_highOf 52 = .ok (.lload 4, 2) := by decide +kernel
theorem dX11_highOf_54 : decode cX11_highOf 54 = .ok (.land, 1) := by decide +kernel
theorem dX11_highOf_55 : decode cX11_highOf 55 = .ok (.ladd, 1) := by decide +kernel
theorem dX11_highOf_56 : decode cX11_highOf 56 = .ok (.lstore 16, 2) := by decide +kernel
theorem dX11_highOf_58 : decode cX11_highOf 58 = .ok (.lload 8, 2) := by decide +kernel
theorem dX11_highOf_60 : decode cX11_highOf 60 = .ok (.lload 12, 2) := by decide +kernel
theorem dX11_highOf_62 : decode cX11_highOf 62 = .ok (.lmul, 1) := by decide +kernel
theorem dX11_highOf_63 : decode cX11_highOf 63 = .ok (.lload 14, 2) := by decide +kernel
theorem dX11_highOf_65 : decode cX11_highOf 65 = .ok (.bipush 32, 2) := by decide +kernel
theorem dX11_highOf_67 : decode cX11_highOf 67 = .ok (.lshr, 1) := by decide +kernel
theorem dX11_highOf_68 : decode cX11_highOf 68 = .ok (.ladd, 1) := by decide +kernel
theorem dX11_highOf_69 : decode cX11_highOf 69 = .ok (.lload 16, 2) := by decide +kernel
theorem dX11_highOf_71 : decode cX11_highOf 71 = .ok (.bipush 32, 2) := by decide +kernel
theorem dX11_highOf_73 : decode cX11_highOf 73 = .ok (.lshr, 1) := by decide +kernel
theorem dX11_highOf_74 : decode cX11_highOf 74 = .ok (.ladd, 1) := by decide +kernel
theorem dX11_highOf_75 : decode cX11_highOf 75 = .ok (.lreturn, 1) := by decide +kernel
theorem dX11_keyOf_0 : decode cX11_keyOf 0 = .ok (.iload_n 0, 1) := by decide +kernel
theorem dX11_keyOf_1 : decode cX11_keyOf 1 = .ok (.i2l, 1) := by decide +kernel
theorem dX11_keyOf_2 : decode cX11_keyOf 2 = .ok (.bipush 32, 2) := by decide +kernel
theorem dX11_keyOf_4 : decode cX11_keyOf 4 = .ok (.lshl, 1) := by decide +kernel
theorem dX11_keyOf_5 : decode cX11_keyOf 5 = .ok (.iload_n 1, 1) := by decide +kernel
theorem dX11_keyOf_6 : decode cX11_keyOf 6 = .ok (.ldc_w 370, 3) := by decide +kernel
theorem dX11_keyOf_9 : decode cX11_keyOf 9 = .ok (.ixor, 1) := by decide +kernel
theorem dX11_keyOf_10 : decode cX11_keyOf 10 = .ok (.i2l, 1) := by decide +kernel
theorem dX11_keyOf_11 : decode cX11_keyOf 11 = .ok (.ldc2_w 366, 3) := by decide +kernel
theorem dX11_keyOf_14 : decode cX11_keyOf 14 = .ok (.land, 1) := by decide +kernel
theorem dX11_keyOf_15 : decode cX11_keyOf 15 = .ok (.lor, 1) := by decide +kernel
theorem dX11_keyOf_16 : decode cX11_keyOf 16 = .ok (.lreturn, 1) := by decide +kernel
theorem dX11_keyX_0 : decode cX11_keyX 0 = .ok (.lload_n 0, 1) := by decide +kernel
theorem dX11_keyX_1 : decode cX11_keyX 1 = .ok (.bipush 32, 2) := by decide +kernel
theorem dX11_keyX_3 : decode cX11_keyX 3 = .ok (.lshr, 1) := by decide +kernel
theorem dX11_keyX_4 : decode cX11_keyX 4 = .ok (.l2i, 1) := by decide +kernel
theorem dX11_keyX_5 : decode cX11_keyX 5 = .ok (.ireturn, 1) := by decide +kernel
theorem dX11_keyY_0 : decode cX11_keyY 0 = .ok (.lload_n 0, 1) := by decide +kernel
theorem dX11_keyY_1 : decode cX11_keyY 1 = .ok (.l2i, 1) := by decide +kernel
theorem dX11_keyY_2 : decode cX11_keyY 2 = .ok (.ldc_w 370, 3) := by decide +kernel
theorem dX11_keyY_5 : decode cX11_keyY 5 = .ok (.ixor, 1) := by decide +kernel
theorem dX11_keyY_6 : decode cX11_keyY 6 = .ok (.ireturn, 1) := by decide +kernel
