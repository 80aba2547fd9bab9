section CAS
theorem dL_found_0 : decode cL_found 0 = .ok (.aload_n 2, 1) := by decide +kernel
theorem dL_found_1 : decode cL_found 1 = .ok (.iconst 0, 1) := by decide +kernel
theorem dL_found_2 : decode cL_found 2 = .ok (.aload_n 0, 1) := by decide +kernel
theorem dL_found_3 : decode cL_found 3 = .ok (.iload_n 1, 1) := by decide +kernel
theorem dL_found_4 : decode cL_found 4 = .ok (.invokevirtual 98, 3) := by decide +kernel
theorem dL_found_12 : decode cL_found 12 = .ok (.astore_n 3, 1) := by decide +kernel
theorem dL_found_13 : decode cL_found 13 = .ok (.iconst 1, 1) := by decide +kernel
theorem dL_found_14 : decode cL_found 14 = .ok (.ireturn, 1) := by decide +kernel
theorem dX11_found_0 : decode cX11_found 0 = .ok (.iload_n 1, 1) := by decide +kernel
theorem dX11_found_1 : decode cX11_found 1 = .ok (.ifCond .lt 11, 3) := by decide +kernel
theorem dX11_found_4 : decode cX11_found 4 = .ok (.iload_n 1, 1) := by decide +kernel
theorem dX11_found_5 : decode cX11_found 5 = .ok (.aload_n 0, 1) := by decide +kernel
theorem dX11_found_6 : decode cX11_found 6 = .ok (.getfield 213, 3) := by decide +kernel
theorem dX11_found_9 : decode cX11_found 9 = .ok (.if_icmp .lt 11, 3) := by decide +kernel
theorem dX11_found_12 : decode cX11_found 12 = .ok (.new 137, 3) := by decide +kernel
theorem dX11_found_15 : decode cX11_found 15 = .ok (.dup, 1) := by decide +kernel
theorem dX11_found_16 : decode cX11_found 16 = .ok (.invokespecial 139, 3) := by decide +kernel
theorem dX11_found_19 : decode cX11_found 19 = .ok (.athrow, 1) := by decide +kernel
theorem dX12_found_0 : decode cX12_found 0 = .ok (.aload_n 0, 1) := by decide +kernel
theorem dX12_found_1 : decode cX12_found 1 = .ok (.iconst 0, 1) := by decide +kernel
theorem dX12_found_2 : decode cX12_found 2 = .ok (.putfield 271, 3) := by decide +kernel
theorem dX12_found_5 : decode cX12_found 5 = .ok (.aload_n 0, 1) := by decide +kernel
theorem dX12_found_6 : decode cX12_found 6 = .ok (.iload_n 1, 1) := by decide +kernel
theorem dX12_found_7 : decode cX12_found 7 = .ok (.i2l, 1) := by decide +kernel
theorem dX12_found_8 : decode cX12_found 8 = .ok (.lconst 0, 1) := by decide +kernel
theorem dX12_found_9 : decode cX12_found 9 = .ok (.aload_n 0, 1) := by decide +kernel
theorem dX12_found_10 : decode cX12_found 10 = .ok (.getfield 575, 3) := by decide +kernel
theorem dX12_found_13 : decode cX12_found 13 = .ok (.iconst 1, 1) := by decide +kernel
theorem dX12_found_14 : decode cX12_found 14 = .ok (.isub, 1) := by decide +kernel
theorem dX12_found_15 : decode cX12_found 15 = .ok (.i2l, 1) := by decide +kernel
theorem dX12_found_16 : decode cX12_found 16 = .ok (.invokestatic 287, 3) := by decide +kernel
theorem dX12_found_19 : decode cX12_found 19 = .ok (.ifCond .ne 7, 3) := by decide +kernel
theorem dX12_found_22 : decode cX12_found 22 = .ok (.iconst 1, 1) := by decide +kernel
theorem dX12_found_23 : decode cX12_found 23 = .ok (.goto 4, 3) := by decide +kernel
theorem dX12_found_27 : decode cX12_found 27 = .ok (.iconst 1, 1) := by decide +kernel
theorem dX12_found_28 : decode cX12_found 28 = .ok (.invokevirtual 277, 3) := by decide +kernel
theorem dX12_found_31 : decode cX12_found 31 = .ok (.ifCond .eq 5, 3) := by decide +kernel
theorem dX12_found_34 : decode cX12_found 34 = .ok (.iconst 0, 1) := by decide +kernel
theorem dX12_found_35 : decode cX12_found 35 = .ok (.ireturn, 1) := by decide +kernel
theorem dX12_in_0 : decode cX12_in 0 = .ok (.lload_n 0, 1) := by decide +kernel
theorem dX12_in_1 : decode cX12_in 1 = .ok (.lload_n 2, 1) := by decide +kernel
theorem dX12_in_2 : decode cX12_in 2 = .ok (.lcmp, 1) := by decide +kernel
theorem dX12_in_3 : decode cX12_in 3 = .ok (.ifCond .lt 14, 3) := by decide +kernel
theorem dX12_in_6 : decode cX12_in 6 = .ok (.lload_n 0, 1) := by decide +kernel
theorem dX12_in_7 : decode cX12_in 7 = .ok (.lload 4, 2) := by decide +kernel
theorem dX12_in_9 : decode cX12_in 9 = .ok (.lcmp, 1) := by decide +kernel
theorem dX12_in_10 : decode cX12_in 10 = .ok (.ifCond .gt 7, 3) := by decide +kernel
theorem dX12_in_13 : decode cX12_in 13 = .ok (.iconst 1, 1) := by decide +kernel
theorem dX12_in_14 : decode cX12_in 14 = .ok (.goto 4, 3) := by decide +kernel
theorem dX12_in_17 : decode cX12_in 17 = .ok (.iconst 0, 1) := by decide +kernel
theorem dX12_in_18 : decode cX12_in 18 = .ok (.ireturn, 1) := by decide +kernel
theorem dX12_fails_0 : decode cX12_fails 0 = .ok (.aload_n 0, 1) := by decide +kernel
theorem dX12_fails_1 : decode cX12_fails 1 = .ok (.iload_n 1, 1) := by decide +kernel
theorem dX12_fails_2 : decode cX12_fails 2 = .ok (.ifCond .eq 14, 3) := by decide +kernel
theorem dX12_fails_5 : decode cX12_fails 5 = .ok (.aload_n 0, 1) := by decide +kernel
theorem dX12_fails_6 : decode cX12_fails 6 = .ok (.getfield 271, 3) := by decide +kernel
theorem dX12_fails_9 : decode cX12_fails 9 = .ok (.ifCond .ne 7, 3) := by decide +kernel
theorem dX12_fails_12 : decode cX12_fails 12 = .ok (.iload_n 2, 1) := by decide +kernel
theorem dX12_fails_13 : decode cX12_fails 13 = .ok (.goto 7, 3) := by decide +kernel
theorem dX12_fails_16 : decode cX12_fails 16 = .ok (.aload_n 0, 1) := by decide +kernel
theorem dX12_fails_17 : decode cX12_fails 17 = .ok (.getfield 271, 3) := by decide +kernel
theorem dX12_fails_20 : decode cX12_fails 20 = .ok (.putfield 271, 3) := by decide +kernel
theorem dX12_fails_23 : decode cX12_fails 23 = .ok (.aload_n 0, 1) := by decide +kernel
theorem dX12_fails_24 : decode cX12_fails 24 = .ok (.getfield 271, 3) := by decide +kernel
theorem dX12_fails_27 : decode cX12_fails 27 = .ok (.ifCond .eq 7, 3) := by decide +kernel
theorem dX12_fails_30 : decode cX12_fails 30 = .ok (.iconst 1, 1) := by decide +kernel
theorem dX12_fails_31 : decode cX12_fails 31 = .ok (.goto 4, 3) := by decide +kernel
theorem dX12_fails_34 : decode cX12_fails 34 = .ok (.iconst 0, 1) := by decide +kernel
theorem dX12_fails_35 : decode cX12_fails 35 = .ok (.ireturn, 1) := by decide +kernel
theorem dX12_thrown_0 : decode cX12_thrown 0 = .ok (.aload_n 0, 1) := by decide +kernel
theorem dX12_thrown_1 : decode cX12_thrown 1 = .ok (.getfield 271, 3) := by decide +kernel
theorem dX12_thrown_4 : decode cX12_thrown 4 = .ok (.ireturn, 1) := by decide +kernel
theorem dL_byteAt_0 : decode cL_byteAt 0 = .ok (.aload_n 2, 1) := by decide +kernel
theorem dL_byteAt_1 : decode cL_byteAt 1 = .ok (.iconst 0, 1) := by decide +kernel
theorem dL_byteAt_2 : decode cL_byteAt 2 = .ok (.aload_n 0, 1) := by decide +kernel
theorem dL_byteAt_3 : decode cL_byteAt 3 = .ok (.iload_n 1, 1) := by decide +kernel
theorem dL_byteAt_4 : decode cL_byteAt 4 = .ok (.invokevirtual 39, 3) := by decide +kernel
theorem dL_byteAt_12 : decode cL_byteAt 12 = .ok (.astore_n 3, 1) := by decide +kernel
theorem dL_byteAt_13 : decode cL_byteAt 13 = .ok (.iconst 1, 1) := by decide +kernel
theorem dL_byteAt_14 : decode cL_byteAt 14 = .ok (.ireturn, 1) := by decide +kernel
theorem dX11_byteAt_0 : decode cX11_byteAt 0 = .ok (.iload_n 1, 1) := by decide +kernel
theorem dX11_byteAt_1 : decode cX11_byteAt 1 = .ok (.ifCond .lt 14, 3) := by decide +kernel
theorem dX11_byteAt_4 : decode cX11_byteAt 4 = .ok (.iload_n 1, 1) := by decide +kernel
theorem dX11_byteAt_5 : decode cX11_byteAt 5 = .ok (.aload_n 0, 1) := by decide +kernel
theorem dX11_byteAt_6 : decode cX11_byteAt 6 = .ok (.getfield 46, 3) := by decide +kernel
theorem dX11_byteAt_9 : decode cX11_byteAt 9 = .ok (.getfield 119, 3) := by decide +kernel
theorem dX11_byteAt_12 : decode cX11_byteAt 12 = .ok (.if_icmp .lt 11, 3) := by decide +kernel
theorem dX11_byteAt_15 : decode cX11_byteAt 15 = .ok (.new 137, 3) := by decide +kernel
theorem dX11_byteAt_18 : decode cX11_byteAt 18 = .ok (.dup, 1) := by decide +kernel
theorem dX11_byteAt_19 : decode cX11_byteAt 19 = .ok (.invokespecial 139, 3) := by decide +kernel
theorem dX11_byteAt_22 : decode cX11_byteAt 22 = .ok (.athrow, 1) := by decide +kernel
theorem dX12_byteAt_0 : decode cX12_byteAt 0 = .ok (.aload_n 0, 1) := by decide +kernel
theorem dX12_byteAt_1 : decode cX12_byteAt 1 = .ok (.iconst 0, 1) := by decide +kernel
theorem dX12_byteAt_2 : decode cX12_byteAt 2 = .ok (.putfield 271, 3) := by decide +kernel
theorem dX12_byteAt_5 : decode cX12_byteAt 5 = .ok (.aload_n 0, 1) := by decide +kernel
theorem dX12_byteAt_6 : decode cX12_byteAt 6 = .ok (.iload_n 1, 1) := by decide +kernel
theorem dX12_byteAt_7 : decode cX12_byteAt 7 = .ok (.i2l, 1) := by decide +kernel
theorem dX12_byteAt_8 : decode cX12_byteAt 8 = .ok (.lconst 0, 1) := by decide +kernel
theorem dX12_byteAt_9 : decode cX12_byteAt 9 = .ok (.aload_n 0, 1) := by decide +kernel
theorem dX12_byteAt_10 : decode cX12_byteAt 10 = .ok (.getfield 291, 3) := by decide +kernel
theorem dX12_byteAt_13 : decode cX12_byteAt 13 = .ok (.iconst 1, 1) := by decide +kernel
theorem dX12_byteAt_14 : decode cX12_byteAt 14 = .ok (.isub, 1) := by decide +kernel
theorem dX12_byteAt_15 : decode cX12_byteAt 15 = .ok (.i2l, 1) := by decide +kernel
theorem dX12_byteAt_16 : decode cX12_byteAt 16 = .ok (.invokestatic 287, 3) := by decide +kernel
theorem dX12_byteAt_19 : decode cX12_byteAt 19 = .ok (.ifCond .ne 7, 3) := by decide +kernel
theorem dX12_byteAt_22 : decode cX12_byteAt 22 = .ok (.iconst 1, 1) := by decide +kernel
theorem dX12_byteAt_23 : decode cX12_byteAt 23 = .ok (.goto 4, 3) := by decide +kernel
theorem dX12_byteAt_27 : decode cX12_byteAt 27 = .ok (.iconst 1, 1) := by decide +kernel
theorem dX12_byteAt_28 : decode cX12_byteAt 28 = .ok (.invokevirtual 277, 3) := by decide +kernel
theorem dX12_byteAt_31 : decode cX12_byteAt 31 = .ok (.ifCond .eq 5, 3) := by decide +kernel
theorem dX12_byteAt_34 : decode cX12_byteAt 34 = .ok (.iconst 0, 1) := by decide +kernel
theorem dX12_byteAt_35 : decode cX12_byteAt 35 = .ok (.ireturn, 1) := by decide +kernel
theorem dX11_again_0 : decode cX11_again 0 = .ok (.aload_n 0, 1) := by decide +kernel
theorem dX11_again_1 : decode cX11_again 1 = .ok (.aload_n 0, 1) := by decide +kernel
theorem dX11_again_2 : decode cX11_again 2 = .ok (.getfield 46, 3) := by decide +kernel
theorem dX11_again_5 : decode cX11_again 5 = .ok (.getfield 119, 3) := by decide +kernel
theorem dX11_again_8 : decode cX11_again 8 = .ok (.ldc 20, 2) := by decide +kernel
theorem dX11_again_10 : decode cX11_again 10 = .ok (.invokestatic 122, 3) := by decide +kernel
theorem dX11_again_13 : decode cX11_again 13 = .ok (.putfield 105, 3) := by decide +kernel
theorem dX11_again_16 : decode cX11_again 16 = .ok (.aload_n 0, 1) := by decide +kernel
theorem dX11_again_17 : decode cX11_again 17 = .ok (.getfield 46, 3) := by decide +kernel
theorem dX11_again_20 : decode cX11_again 20 = .ok (.getfield 128, 3) := by decide +kernel
theorem dX11_again_23 : decode cX11_again 23 = .ok (.iconst 0, 1) := by decide +kernel
theorem dX11_again_24 : decode cX11_again 24 = .ok (.aload_n 0, 1) := by decide +kernel
theorem dX11_again_25 : decode cX11_again 25 = .ok (.getfield 21, 3) := by decide +kernel
theorem dX11_again_28 : decode cX11_again 28 = .ok (.iconst 0, 1) := by decide +kernel
theorem dX11_again_29 : decode cX11_again 29 = .ok (.aload_n 0, 1) := by decide +kernel
theorem dX11_again_30 : decode cX11_again 30 = .ok (.getfield 105, 3) := by decide +kernel
theorem dX11_again_33 : decode cX11_again 33 = .ok (.invokestatic 131, 3) := by decide +kernel
theorem dX11_again_36 : decode cX11_again 36 = .ok (.aload_n 0, 1) := by decide +kernel
theorem dX11_again_37 : decode cX11_again 37 = .ok (.getfield 105, 3) := by decide +kernel
theorem dX11_again_40 : decode cX11_again 40 = .ok (.ireturn, 1) := by decide +kernel
theorem dX12_again_0 : decode cX12_again 0 = .ok (.aload_n 0, 1) := by decide +kernel
theorem dX12_again_1 : decode cX12_again 1 = .ok (.iconst 0, 1) := by decide +kernel
theorem dX12_again_2 : decode cX12_again 2 = .ok (.putfield 271, 3) := by decide +kernel
theorem dX12_again_5 : decode cX12_again 5 = .ok (.aload_n 0, 1) := by decide +kernel
theorem dX12_again_6 : decode cX12_again 6 = .ok (.aload_n 0, 1) := by decide +kernel
theorem dX12_again_7 : decode cX12_again 7 = .ok (.getfield 291, 3) := by decide +kernel
theorem dX12_again_10 : decode cX12_again 10 = .ok (.ldc 7, 2) := by decide +kernel
theorem dX12_again_12 : decode cX12_again 12 = .ok (.if_icmp .ge 10, 3) := by decide +kernel
theorem dX12_again_15 : decode cX12_again 15 = .ok (.aload_n 0, 1) := by decide +kernel
theorem dX12_again_16 : decode cX12_again 16 = .ok (.getfield 291, 3) := by decide +kernel
theorem dX12_again_19 : decode cX12_again 19 = .ok (.goto 5, 3) := by decide +kernel
theorem dX12_again_24 : decode cX12_again 24 = .ok (.putfield 274, 3) := by decide +kernel
theorem dX12_again_27 : decode cX12_again 27 = .ok (.iconst 0, 1) := by decide +kernel
theorem dX12_again_28 : decode cX12_again 28 = .ok (.istore_n 1, 1) := by decide +kernel
theorem dX12_again_29 : decode cX12_again 29 = .ok (.iload_n 1, 1) := by decide +kernel
theorem dX12_again_30 : decode cX12_again 30 = .ok (.aload_n 0, 1) := by decide +kernel
theorem dX12_again_31 : decode cX12_again 31 = .ok (.getfield 274, 3) := by decide +kernel
theorem dX12_again_34 : decode cX12_again 34 = .ok (.if_icmp .ge 21, 3) := by decide +kernel
theorem dX12_again_55 : decode cX12_again 55 = .ok (.aload_n 0, 1) := by decide +kernel
theorem dX12_again_56 : decode cX12_again 56 = .ok (.getfield 274, 3) := by decide +kernel
theorem dX12_again_59 : decode cX12_again 59 = .ok (.ireturn, 1) := by decide +kernel
theorem dL_fault_0 : decode cL_fault 0 = .ok (.aload_n 2, 1) := by decide +kernel
theorem dL_fault_1 : decode cL_fault 1 = .ok (.iconst 0, 1) := by decide +kernel
theorem dL_fault_2 : decode cL_fault 2 = .ok (.aload_n 0, 1) := by decide +kernel
theorem dL_fault_3 : decode cL_fault 3 = .ok (.iload_n 1, 1) := by decide +kernel
theorem dL_fault_4 : decode cL_fault 4 = .ok (.invokevirtual 29, 3) := by decide +kernel
theorem dL_fault_7 : decode cL_fault 7 = .ok (.i2l, 1) := by decide +kernel
theorem dL_fault_8 : decode cL_fault 8 = .ok (.lastore, 1) := by decide +kernel
theorem dL_fault_9 : decode cL_fault 9 = .ok (.goto 6, 3) := by decide +kernel
theorem dL_fault_12 : decode cL_fault 12 = .ok (.astore_n 3, 1) := by decide +kernel
theorem dL_fault_13 : decode cL_fault 13 = .ok (.iconst 1, 1) := by decide +kernel
theorem dL_fault_14 : decode cL_fault 14 = .ok (.ireturn, 1) := by decide +kernel
theorem dL_fault_15 : decode cL_fault 15 = .ok (.iconst 0, 1) := by decide +kernel
theorem dL_fault_16 : decode cL_fault 16 = .ok (.ireturn, 1) := by decide +kernel
theorem dX11_fault_0 : decode cX11_fault 0 = .ok (.iload_n 1, 1) := by decide +kernel
theorem dX11_fault_1 : decode cX11_fault 1 = .ok (.ifCond .lt 8, 3) := by decide +kernel
theorem dX11_fault_4 : decode cX11_fault 4 = .ok (.iload_n 1, 1) := by decide +kernel
theorem dX11_fault_5 : decode cX11_fault 5 = .ok (.iconst 1, 1) := by decide +kernel
theorem dX11_fault_6 : decode cX11_fault 6 = .ok (.if_icmp .le 11, 3) := by decide +kernel
theorem dX11_fault_9 : decode cX11_fault 9 = .ok (.new 137, 3) := by decide +kernel
theorem dX11_fault_12 : decode cX11_fault 12 = .ok (.dup, 1) := by decide +kernel
theorem dX11_fault_13 : decode cX11_fault 13 = .ok (.invokespecial 139, 3) := by decide +kernel
theorem dX11_fault_16 : decode cX11_fault 16 = .ok (.athrow, 1) := by decide +kernel
theorem dX11_fault_17 : decode cX11_fault 17 = .ok (.iload_n 1, 1) := by decide +kernel
theorem dX11_fault_18 : decode cX11_fault 18 = .ok (.ifCond .ne 10, 3) := by decide +kernel
theorem dX11_fault_21 : decode cX11_fault 21 = .ok (.aload_n 0, 1) := by decide +kernel
theorem dX11_fault_22 : decode cX11_fault 22 = .ok (.getfield 161, 3) := by decide +kernel
theorem dX11_fault_25 : decode cX11_fault 25 = .ok (.goto 7, 3) := by decide +kernel
theorem dX11_fault_28 : decode cX11_fault 28 = .ok (.aload_n 0, 1) := by decide +kernel
theorem dX11_fault_29 : decode cX11_fault 29 = .ok (.getfield 162, 3) := by decide +kernel
theorem dX11_fault_32 : decode cX11_fault 32 = .ok (.ireturn, 1) := by decide +kernel
theorem dX12_fault_0 : decode cX12_fault 0 = .ok (.aload_n 0, 1) := by decide +kernel
theorem dX12_fault_1 : decode cX12_fault 1 = .ok (.iconst 0, 1) := by decide +kernel
theorem dX12_fault_2 : decode cX12_fault 2 = .ok (.putfield 271, 3) := by decide +kernel
theorem dX12_fault_5 : decode cX12_fault 5 = .ok (.aload_n 0, 1) := by decide +kernel
theorem dX12_fault_6 : decode cX12_fault 6 = .ok (.iload_n 1, 1) := by decide +kernel
theorem dX12_fault_7 : decode cX12_fault 7 = .ok (.i2l, 1) := by decide +kernel
theorem dX12_fault_8 : decode cX12_fault 8 = .ok (.lconst 0, 1) := by decide +kernel
theorem dX12_fault_9 : decode cX12_fault 9 = .ok (.lconst 1, 1) := by decide +kernel
theorem dX12_fault_10 : decode cX12_fault 10 = .ok (.invokestatic 287, 3) := by decide +kernel
theorem dX12_fault_13 : decode cX12_fault 13 = .ok (.ifCond .ne 7, 3) := by decide +kernel
theorem dX12_fault_16 : decode cX12_fault 16 = .ok (.iconst 1, 1) := by decide +kernel
theorem dX12_fault_17 : decode cX12_fault 17 = .ok (.goto 4, 3) := by decide +kernel
theorem dX12_fault_20 : decode cX12_fault 20 = .ok (.iconst 0, 1) := by decide +kernel
theorem dX12_fault_21 : decode cX12_fault 21 = .ok (.iconst 1, 1) := by decide +kernel
theorem dX12_fault_22 : decode cX12_fault 22 = .ok (.invokevirtual 277, 3) := by decide +kernel
theorem dX12_fault_25 : decode cX12_fault 25 = .ok (.ifCond .eq 5, 3) := by decide +kernel
theorem dX12_fault_28 : decode cX12_fault 28 = .ok (.iconst 0, 1) := by decide +kernel
theorem dX12_fault_29 : decode cX12_fault 29 = .ok (.ireturn, 1) := by decide +kernel
theorem dX12_fault_30 : decode cX12_fault 30 = .ok (.iload_n 1, 1) := by decide +kernel
theorem dX12_fault_31 : decode cX12_fault 31 = .ok (.ifCond .ne 10, 3) := by decide +kernel
theorem dX12_fault_34 : decode cX12_fault 34 = .ok (.aload_n 0, 1) := by decide +kernel
theorem dX12_fault_35 : decode cX12_fault 35 = .ok (.getfield 294, 3) := by decide +kernel
theorem dX12_fault_38 : decode cX12_fault 38 = .ok (.goto 7, 3) := by decide +kernel
theorem dX12_fault_41 : decode cX12_fault 41 = .ok (.aload_n 0, 1) := by decide +kernel
theorem dX12_fault_42 : decode cX12_fault 42 = .ok (.getfield 297, 3) := by decide +kernel
theorem dX12_fault_45 : decode cX12_fault 45 = .ok (.ireturn, 1) := by decide +kernel
theorem dL_place_0 : decode cL_place 0 = .ok (.aload_n 2, 1) := by decide +kernel
theorem dL_place_1 : decode cL_place 1 = .ok (.iconst 0, 1) := by decide +kernel
theorem dL_place_2 : decode cL_place 2 = .ok (.aload_n 0, 1) := by decide +kernel
theorem dL_place_3 : decode cL_place 3 = .ok (.iload_n 1, 1) := by decide +kernel
theorem dL_place_4 : decode cL_place 4 = .ok (.invokevirtual 56, 3) := by decide +kernel
theorem dL_place_7 : decode cL_place 7 = .ok (.i2l, 1) := by decide +kernel
theorem dL_place_8 : decode cL_place 8 = .ok (.lastore, 1) := by decide +kernel
theorem dL_place_9 : decode cL_place 9 = .ok (.goto 6, 3) := by decide +kernel
theorem dL_place_12 : decode cL_place 12 = .ok (.astore_n 3, 1) := by decide +kernel
theorem dL_place_13 : decode cL_place 13 = .ok (.iconst 1, 1) := by decide +kernel
theorem dL_place_14 : decode cL_place 14 = .ok (.ireturn, 1) := by decide +kernel
theorem dL_place_15 : decode cL_place 15 = .ok (.iconst 0, 1) := by decide +kernel
theorem dL_place_16 : decode cL_place 16 = .ok (.ireturn, 1) := by decide +kernel
theorem dX11_place_0 : decode cX11_place 0 = .ok (.iload_n 1, 1) := by decide +kernel
theorem dX11_place_1 : decode cX11_place 1 = .ok (.ifCond .lt 9, 3) := by decide +kernel
theorem dX11_place_4 : decode cX11_place 4 = .ok (.iload_n 1, 1) := by decide +kernel
theorem dX11_place_5 : decode cX11_place 5 = .ok (.bipush 7, 2) := by decide +kernel
theorem dX11_place_7 : decode cX11_place 7 = .ok (.if_icmp .lt 11, 3) := by decide +kernel
theorem dX11_place_10 : decode cX11_place 10 = .ok (.new 137, 3) := by decide +kernel
theorem dX11_place_13 : decode cX11_place 13 = .ok (.dup, 1) := by decide +kernel
theorem dX11_place_14 : decode cX11_place 14 = .ok (.invokespecial 139, 3) := by decide +kernel
theorem dX11_place_17 : decode cX11_place 17 = .ok (.athrow, 1) := by decide +kernel
theorem dX11_place_18 : decode cX11_place 18 = .ok (.aload_n 0, 1) := by decide +kernel
theorem dX11_place_19 : decode cX11_place 19 = .ok (.getfield 53, 3) := by decide +kernel
theorem dX11_place_22 : decode cX11_place 22 = .ok (.getfield 219, 3) := by decide +kernel
theorem dX11_place_25 : decode cX11_place 25 = .ok (.iload_n 1, 1) := by decide +kernel
theorem dX11_place_26 : decode cX11_place 26 = .ok (.iaload, 1) := by decide +kernel
theorem dX11_place_27 : decode cX11_place 27 = .ok (.ireturn, 1) := by decide +kernel
theorem dX12_place_0 : decode cX12_place 0 = .ok (.aload_n 0, 1) := by decide +kernel
theorem dX12_place_1 : decode cX12_place 1 = .ok (.iconst 0, 1) := by decide +kernel
theorem dX12_place_2 : decode cX12_place 2 = .ok (.putfield 271, 3) := by decide +kernel
theorem dX12_place_5 : decode cX12_place 5 = .ok (.aload_n 0, 1) := by decide +kernel
theorem dX12_place_6 : decode cX12_place 6 = .ok (.iload_n 1, 1) := by decide +kernel
theorem dX12_place_7 : decode cX12_place 7 = .ok (.i2l, 1) := by decide +kernel
theorem dX12_place_8 : decode cX12_place 8 = .ok (.lconst 0, 1) := by decide +kernel
theorem dX12_place_9 : decode cX12_place 9 = .ok (.ldc2_w 772, 3) := by decide +kernel
theorem dX12_place_12 : decode cX12_place 12 = .ok (.invokestatic 287, 3) := by decide +kernel
theorem dX12_place_15 : decode cX12_place 15 = .ok (.ifCond .ne 7, 3) := by decide +kernel
theorem dX12_place_18 : decode cX12_place 18 = .ok (.iconst 1, 1) := by decide +kernel
theorem dX12_place_19 : decode cX12_place 19 = .ok (.goto 4, 3) := by decide +kernel
theorem dX12_place_22 : decode cX12_place 22 = .ok (.iconst 0, 1) := by decide +kernel
theorem dX12_place_23 : decode cX12_place 23 = .ok (.iconst 1, 1) := by decide +kernel
theorem dX12_place_24 : decode cX12_place 24 = .ok (.invokevirtual 277, 3) := by decide +kernel
theorem dX12_place_27 : decode cX12_place 27 = .ok (.ifCond .eq 5, 3) := by decide +kernel
theorem dX12_place_30 : decode cX12_place 30 = .ok (.iconst 0, 1) := by decide +kernel
theorem dX12_place_31 : decode cX12_place 31 = .ok (.ireturn, 1) := by decide +kernel
theorem dX12_place_32 : decode cX12_place 32 = .ok (.aload_n 0, 1) := by decide +kernel
theorem dX12_place_33 : decode cX12_place 33 = .ok (.getfield 35, 3) := by decide +kernel
theorem dX12_place_36 : decode cX12_place 36 = .ok (.iload_n 1, 1) := by decide +kernel
theorem dX12_place_37 : decode cX12_place 37 = .ok (.iaload, 1) := by decide +kernel
theorem dX12_place_38 : decode cX12_place 38 = .ok (.ireturn, 1) := by decide +kernel
theorem dL_plan_0 : decode cL_plan 0 = .ok (.aload_n 3, 1) := by decide +kernel
theorem dL_plan_1 : decode cL_plan 1 = .ok (.iconst 0, 1) := by decide +kernel
theorem dL_plan_2 : decode cL_plan 2 = .ok (.aload_n 0, 1) := by decide +kernel
theorem dL_plan_3 : decode cL_plan 3 = .ok (.iload_n 1, 1) := by decide +kernel
theorem dL_plan_4 : decode cL_plan 4 = .ok (.iload_n 2, 1) := by decide +kernel
theorem dL_plan_5 : decode cL_plan 5 = .ok (.invokevirtual 101, 3) := by decide +kernel
theorem dL_plan_13 : decode cL_plan 13 = .ok (.astore 4, 2) := by decide +kernel
theorem dL_plan_15 : decode cL_plan 15 = .ok (.iconst 1, 1) := by decide +kernel
theorem dL_plan_16 : decode cL_plan 16 = .ok (.ireturn, 1) := by decide +kernel
theorem dX11_plan_0 : decode cX11_plan 0 = .ok (.aload_n 0, 1) := by decide +kernel
theorem dX11_plan_1 : decode cX11_plan 1 = .ok (.iload_n 1, 1) := by decide +kernel
theorem dX11_plan_2 : decode cX11_plan 2 = .ok (.invokevirtual 140, 3) := by decide +kernel
theorem dX11_plan_5 : decode cX11_plan 5 = .ok (.astore_n 3, 1) := by decide +kernel
theorem dX11_plan_6 : decode cX11_plan 6 = .ok (.iload_n 2, 1) := by decide +kernel
theorem dX11_plan_7 : decode cX11_plan 7 = .ok (.ifCond .lt 11, 3) := by decide +kernel
theorem dX11_plan_10 : decode cX11_plan 10 = .ok (.iload_n 2, 1) := by decide +kernel
theorem dX11_plan_11 : decode cX11_plan 11 = .ok (.aload_n 3, 1) := by decide +kernel
theorem dX11_plan_12 : decode cX11_plan 12 = .ok (.getfield 195, 3) := by decide +kernel
theorem dX11_plan_15 : decode cX11_plan 15 = .ok (.if_icmp .lt 11, 3) := by decide +kernel
theorem dX11_plan_18 : decode cX11_plan 18 = .ok (.new 137, 3) := by decide +kernel
theorem dX11_plan_21 : decode cX11_plan 21 = .ok (.dup, 1) := by decide +kernel
theorem dX11_plan_22 : decode cX11_plan 22 = .ok (.invokespecial 139, 3) := by decide +kernel
theorem dX11_plan_25 : decode cX11_plan 25 = .ok (.athrow, 1) := by decide +kernel
theorem dX11_slotNumbered_0 : decode cX11_slotNumbered 0 = .ok (.iload_n 1, 1) := by decide +kernel
theorem dX11_slotNumbered_1 : decode cX11_slotNumbered 1 = .ok (.ifCond .lt 9, 3) := by decide +kernel
theorem dX11_slotNumbered_4 : decode cX11_slotNumbered 4 = .ok (.iload_n 1, 1) := by decide +kernel
theorem dX11_slotNumbered_5 : decode cX11_slotNumbered 5 = .ok (.bipush 32, 2) := by decide +kernel
theorem dX11_slotNumbered_7 : decode cX11_slotNumbered 7 = .ok (.if_icmp .lt 11, 3) := by decide +kernel
theorem dX11_slotNumbered_10 : decode cX11_slotNumbered 10 = .ok (.new 137, 3) := by decide +kernel
theorem dX11_slotNumbered_13 : decode cX11_slotNumbered 13 = .ok (.dup, 1) := by decide +kernel
theorem dX11_slotNumbered_14 : decode cX11_slotNumbered 14 = .ok (.invokespecial 139, 3) := by decide +kernel
theorem dX11_slotNumbered_17 : decode cX11_slotNumbered 17 = .ok (.athrow, 1) := by decide +kernel
theorem dX11_slotNumbered_18 : decode cX11_slotNumbered 18 = .ok (.aload_n 0, 1) := by decide +kernel
theorem dX11_slotNumbered_19 : decode cX11_slotNumbered 19 = .ok (.getfield 11, 3) := by decide +kernel
theorem dX11_slotNumbered_22 : decode cX11_slotNumbered 22 = .ok (.iload_n 1, 1) := by decide +kernel
theorem dX11_slotNumbered_23 : decode cX11_slotNumbered 23 = .ok (.aaload, 1) := by decide +kernel
theorem dX11_slotNumbered_24 : decode cX11_slotNumbered 24 = .ok (.areturn, 1) := by decide +kernel
theorem dX12_plan_0 : decode cX12_plan 0 = .ok (.aload_n 0, 1) := by decide +kernel
theorem dX12_plan_1 : decode cX12_plan 1 = .ok (.iconst 0, 1) := by decide +kernel
theorem dX12_plan_2 : decode cX12_plan 2 = .ok (.putfield 271, 3) := by decide +kernel
theorem dX12_plan_5 : decode cX12_plan 5 = .ok (.aload_n 0, 1) := by decide +kernel
theorem dX12_plan_6 : decode cX12_plan 6 = .ok (.iload_n 1, 1) := by decide +kernel
theorem dX12_plan_7 : decode cX12_plan 7 = .ok (.invokestatic 440, 3) := by decide +kernel
theorem dX12_plan_10 : decode cX12_plan 10 = .ok (.ifCond .ne 7, 3) := by decide +kernel
theorem dX12_plan_13 : decode cX12_plan 13 = .ok (.iconst 1, 1) := by decide +kernel
theorem dX12_plan_14 : decode cX12_plan 14 = .ok (.goto 4, 3) := by decide +kernel
theorem dX12_plan_17 : decode cX12_plan 17 = .ok (.iconst 0, 1) := by decide +kernel
theorem dX12_plan_18 : decode cX12_plan 18 = .ok (.iconst 1, 1) := by decide +kernel
theorem dX12_plan_19 : decode cX12_plan 19 = .ok (.invokevirtual 277, 3) := by decide +kernel
theorem dX12_plan_22 : decode cX12_plan 22 = .ok (.ifCond .ne 34, 3) := by decide +kernel
theorem dX12_plan_25 : decode cX12_plan 25 = .ok (.aload_n 0, 1) := by decide +kernel
theorem dX12_plan_26 : decode cX12_plan 26 = .ok (.iload_n 2, 1) := by decide +kernel
theorem dX12_plan_27 : decode cX12_plan 27 = .ok (.i2l, 1) := by decide +kernel
theorem dX12_plan_28 : decode cX12_plan 28 = .ok (.lconst 0, 1) := by decide +kernel
theorem dX12_plan_29 : decode cX12_plan 29 = .ok (.aload_n 0, 1) := by decide +kernel
theorem dX12_plan_30 : decode cX12_plan 30 = .ok (.getfield 18, 3) := by decide +kernel
theorem dX12_plan_33 : decode cX12_plan 33 = .ok (.iload_n 1, 1) := by decide +kernel
theorem dX12_plan_34 : decode cX12_plan 34 = .ok (.iaload, 1) := by decide +kernel
theorem dX12_plan_35 : decode cX12_plan 35 = .ok (.iconst 1, 1) := by decide +kernel
theorem dX12_plan_36 : decode cX12_plan 36 = .ok (.isub, 1) := by decide +kernel
theorem dX12_plan_37 : decode cX12_plan 37 = .ok (.i2l, 1) := by decide +kernel
theorem dX12_plan_38 : decode cX12_plan 38 = .ok (.invokestatic 287, 3) := by decide +kernel
theorem dX12_plan_41 : decode cX12_plan 41 = .ok (.ifCond .ne 7, 3) := by decide +kernel
theorem dX12_plan_44 : decode cX12_plan 44 = .ok (.iconst 1, 1) := by decide +kernel
theorem dX12_plan_45 : decode cX12_plan 45 = .ok (.goto 4, 3) := by decide +kernel
theorem dX12_plan_49 : decode cX12_plan 49 = .ok (.iconst 1, 1) := by decide +kernel
theorem dX12_plan_50 : decode cX12_plan 50 = .ok (.invokevirtual 277, 3) := by decide +kernel
theorem dX12_plan_53 : decode cX12_plan 53 = .ok (.ifCond .eq 5, 3) := by decide +kernel
theorem dX12_plan_56 : decode cX12_plan 56 = .ok (.iconst 0, 1) := by decide +kernel
theorem dX12_plan_57 : decode cX12_plan 57 = .ok (.ireturn, 1) := by decide +kernel
theorem dX12_isSlot_0 : decode cX12_isSlot 0 = .ok (.iload_n 0, 1) := by decide +kernel
theorem dX12_isSlot_1 : decode cX12_isSlot 1 = .ok (.ifCond .lt 13, 3) := by decide +kernel
theorem dX12_isSlot_4 : decode cX12_isSlot 4 = .ok (.iload_n 0, 1) := by decide +kernel
theorem dX12_isSlot_5 : decode cX12_isSlot 5 = .ok (.bipush 32, 2) := by decide +kernel
theorem dX12_isSlot_7 : decode cX12_isSlot 7 = .ok (.if_icmp .ge 7, 3) := by decide +kernel
theorem dX12_isSlot_10 : decode cX12_isSlot 10 = .ok (.iconst 1, 1) := by decide +kernel
theorem dX12_isSlot_11 : decode cX12_isSlot 11 = .ok (.goto 4, 3) := by decide +kernel
theorem dX12_isSlot_14 : decode cX12_isSlot 14 = .ok (.iconst 0, 1) := by decide +kernel
theorem dX12_isSlot_15 : decode cX12_isSlot 15 = .ok (.ireturn, 1) := by decide +kernel
theorem dL_ordinate_0 : decode cL_ordinate 0 = .ok (.aload 4, 2) := by decide +kernel
theorem dL_ordinate_2 : decode cL_ordinate 2 = .ok (.iconst 0, 1) := by decide +kernel
theorem dL_ordinate_3 : decode cL_ordinate 3 = .ok (.aload_n 0, 1) := by decide +kernel
theorem dL_ordinate_4 : decode cL_ordinate 4 = .ok (.iload_n 1, 1) := by decide +kernel
theorem dL_ordinate_5 : decode cL_ordinate 5 = .ok (.iload_n 2, 1) := by decide +kernel
theorem dL_ordinate_6 : decode cL_ordinate 6 = .ok (.iload_n 3, 1) := by decide +kernel
theorem dL_ordinate_7 : decode cL_ordinate 7 = .ok (.invokevirtual 104, 3) := by decide +kernel
theorem dL_ordinate_15 : decode cL_ordinate 15 = .ok (.astore 5, 2) := by decide +kernel
theorem dL_ordinate_17 : decode cL_ordinate 17 = .ok (.iconst 1, 1) := by decide +kernel
theorem dL_ordinate_18 : decode cL_ordinate 18 = .ok (.ireturn, 1) := by decide +kernel
theorem dX11_ordinate_0 : decode cX11_ordinate 0 = .ok (.aload_n 0, 1) := by decide +kernel
theorem dX11_ordinate_1 : decode cX11_ordinate 1 = .ok (.iload_n 1, 1) := by decide +kernel
theorem dX11_ordinate_2 : decode cX11_ordinate 2 = .ok (.invokevirtual 140, 3) := by decide +kernel
theorem dX11_ordinate_5 : decode cX11_ordinate 5 = .ok (.astore 4, 2) := by decide +kernel
theorem dX11_ordinate_7 : decode cX11_ordinate 7 = .ok (.iload_n 2, 1) := by decide +kernel
theorem dX11_ordinate_8 : decode cX11_ordinate 8 = .ok (.ifCond .lt 21, 3) := by decide +kernel
theorem dX11_ordinate_11 : decode cX11_ordinate 11 = .ok (.iload_n 2, 1) := by decide +kernel
theorem dX11_ordinate_12 : decode cX11_ordinate 12 = .ok (.aload 4, 2) := by decide +kernel
theorem dX11_ordinate_14 : decode cX11_ordinate 14 = .ok (.getfield 201, 3) := by decide +kernel
theorem dX11_ordinate_17 : decode cX11_ordinate 17 = .ok (.if_icmp .ge 12, 3) := by decide +kernel
theorem dX11_ordinate_29 : decode cX11_ordinate 29 = .ok (.new 137, 3) := by decide +kernel
theorem dX11_ordinate_32 : decode cX11_ordinate 32 = .ok (.dup, 1) := by decide +kernel
theorem dX11_ordinate_33 : decode cX11_ordinate 33 = .ok (.invokespecial 139, 3) := by decide +kernel
theorem dX11_ordinate_36 : decode cX11_ordinate 36 = .ok (.athrow, 1) := by decide +kernel
theorem dX12_ordinate_0 : decode cX12_ordinate 0 = .ok (.aload_n 0, 1) := by decide +kernel
theorem dX12_ordinate_1 : decode cX12_ordinate 1 = .ok (.iconst 0, 1) := by decide +kernel
theorem dX12_ordinate_2 : decode cX12_ordinate 2 = .ok (.putfield 271, 3) := by decide +kernel
theorem dX12_ordinate_5 : decode cX12_ordinate 5 = .ok (.aload_n 0, 1) := by decide +kernel
theorem dX12_ordinate_6 : decode cX12_ordinate 6 = .ok (.iload_n 1, 1) := by decide +kernel
theorem dX12_ordinate_7 : decode cX12_ordinate 7 = .ok (.invokestatic 440, 3) := by decide +kernel
theorem dX12_ordinate_10 : decode cX12_ordinate 10 = .ok (.ifCond .ne 7, 3) := by decide +kernel
theorem dX12_ordinate_13 : decode cX12_ordinate 13 = .ok (.iconst 1, 1) := by decide +kernel
theorem dX12_ordinate_14 : decode cX12_ordinate 14 = .ok (.goto 4, 3) := by decide +kernel
theorem dX12_ordinate_17 : decode cX12_ordinate 17 = .ok (.iconst 0, 1) := by decide +kernel
theorem dX12_ordinate_18 : decode cX12_ordinate 18 = .ok (.iconst 1, 1) := by decide +kernel
theorem dX12_ordinate_19 : decode cX12_ordinate 19 = .ok (.invokevirtual 277, 3) := by decide +kernel
theorem dX12_ordinate_22 : decode cX12_ordinate 22 = .ok (.ifCond .ne 44, 3) := by decide +kernel
theorem dX12_ordinate_25 : decode cX12_ordinate 25 = .ok (.aload_n 0, 1) := by decide +kernel
theorem dX12_ordinate_26 : decode cX12_ordinate 26 = .ok (.iload_n 2, 1) := by decide +kernel
theorem dX12_ordinate_27 : decode cX12_ordinate 27 = .ok (.i2l, 1) := by decide +kernel
theorem dX12_ordinate_28 : decode cX12_ordinate 28 = .ok (.lconst 0, 1) := by decide +kernel
theorem dX12_ordinate_29 : decode cX12_ordinate 29 = .ok (.aload_n 0, 1) := by decide +kernel
theorem dX12_ordinate_30 : decode cX12_ordinate 30 = .ok (.getfield 26, 3) := by decide +kernel
theorem dX12_ordinate_33 : decode cX12_ordinate 33 = .ok (.iload_n 1, 1) := by decide +kernel
theorem dX12_ordinate_34 : decode cX12_ordinate 34 = .ok (.iaload, 1) := by decide +kernel
theorem dX12_ordinate_35 : decode cX12_ordinate 35 = .ok (.iconst 1, 1) := by decide +kernel
theorem dX12_ordinate_36 : decode cX12_ordinate 36 = .ok (.isub, 1) := by decide +kernel
theorem dX12_ordinate_37 : decode cX12_ordinate 37 = .ok (.i2l, 1) := by decide +kernel
theorem dX12_ordinate_38 : decode cX12_ordinate 38 = .ok (.invokestatic 287, 3) := by decide +kernel
theorem dX12_ordinate_41 : decode cX12_ordinate 41 = .ok (.ifCond .eq 13, 3) := by decide +kernel
theorem dX12_ordinate_54 : decode cX12_ordinate 54 = .ok (.iconst 1, 1) := by decide +kernel
theorem dX12_ordinate_55 : decode cX12_ordinate 55 = .ok (.goto 4, 3) := by decide +kernel
theorem dX12_ordinate_59 : decode cX12_ordinate 59 = .ok (.iconst 1, 1) := by decide +kernel
theorem dX12_ordinate_60 : decode cX12_ordinate 60 = .ok (.invokevirtual 277, 3) := by decide +kernel
theorem dX12_ordinate_63 : decode cX12_ordinate 63 = .ok (.ifCond .eq 5, 3) := by decide +kernel
theorem dX12_ordinate_66 : decode cX12_ordinate 66 = .ok (.iconst 0, 1) := by decide +kernel
theorem dX12_ordinate_67 : decode cX12_ordinate 67 = .ok (.ireturn, 1) := by decide +kernel
theorem dL_end_0 : decode cL_end 0 = .ok (.aload_n 2, 1) := by decide +kernel
theorem dL_end_1 : decode cL_end 1 = .ok (.iconst 0, 1) := by decide +kernel
theorem dL_end_2 : decode cL_end 2 = .ok (.aload_n 0, 1) := by decide +kernel
theorem dL_end_3 : decode cL_end 3 = .ok (.iload_n 1, 1) := by decide +kernel
theorem dL_end_4 : decode cL_end 4 = .ok (.invokevirtual 15, 3) := by decide +kernel
theorem dL_end_12 : decode cL_end 12 = .ok (.astore_n 3, 1) := by decide +kernel
theorem dL_end_13 : decode cL_end 13 = .ok (.iconst 1, 1) := by decide +kernel
theorem dL_end_14 : decode cL_end 14 = .ok (.ireturn, 1) := by decide +kernel
theorem dL_end_15 : decode cL_end 15 = .ok (.astore_n 3, 1) := by decide +kernel
theorem dL_end_16 : decode cL_end 16 = .ok (.iconst 2, 1) := by decide +kernel
theorem dL_end_17 : decode cL_end 17 = .ok (.ireturn, 1) := by decide +kernel
theorem dX11_end_0 : decode cX11_end 0 = .ok (.iload_n 1, 1) := by decide +kernel
theorem dX11_end_1 : decode cX11_end 1 = .ok (.ifCond .lt 9, 3) := by decide +kernel
theorem dX11_end_4 : decode cX11_end 4 = .ok (.iload_n 1, 1) := by decide +kernel
theorem dX11_end_5 : decode cX11_end 5 = .ok (.bipush 20, 2) := by decide +kernel
theorem dX11_end_7 : decode cX11_end 7 = .ok (.if_icmp .le 11, 3) := by decide +kernel
theorem dX11_end_10 : decode cX11_end 10 = .ok (.new 116, 3) := by decide +kernel
theorem dX11_end_13 : decode cX11_end 13 = .ok (.dup, 1) := by decide +kernel
theorem dX11_end_14 : decode cX11_end 14 = .ok (.invokespecial 118, 3) := by decide +kernel
theorem dX11_end_17 : decode cX11_end 17 = .ok (.athrow, 1) := by decide +kernel
theorem dX11_end_18 : decode cX11_end 18 = .ok (.aload_n 0, 1) := by decide +kernel
theorem dX11_end_19 : decode cX11_end 19 = .ok (.getfield 105, 3) := by decide +kernel
theorem dX11_end_22 : decode cX11_end 22 = .ok (.bipush 20, 2) := by decide +kernel
theorem dX11_end_24 : decode cX11_end 24 = .ok (.if_icmp .ge 11, 3) := by decide +kernel
theorem dX11_end_27 : decode cX11_end 27 = .ok (.new 110, 3) := by decide +kernel
theorem dX11_end_30 : decode cX11_end 30 = .ok (.dup, 1) := by decide +kernel
theorem dX11_end_31 : decode cX11_end 31 = .ok (.invokespecial 112, 3) := by decide +kernel
theorem dX11_end_34 : decode cX11_end 34 = .ok (.athrow, 1) := by decide +kernel
theorem dX12_end_0 : decode cX12_end 0 = .ok (.aload_n 0, 1) := by decide +kernel
theorem dX12_end_1 : decode cX12_end 1 = .ok (.iconst 0, 1) := by decide +kernel
theorem dX12_end_2 : decode cX12_end 2 = .ok (.putfield 271, 3) := by decide +kernel
theorem dX12_end_5 : decode cX12_end 5 = .ok (.aload_n 0, 1) := by decide +kernel
theorem dX12_end_6 : decode cX12_end 6 = .ok (.iload_n 1, 1) := by decide +kernel
theorem dX12_end_7 : decode cX12_end 7 = .ok (.i2l, 1) := by decide +kernel
theorem dX12_end_8 : decode cX12_end 8 = .ok (.lconst 0, 1) := by decide +kernel
theorem dX12_end_9 : decode cX12_end 9 = .ok (.ldc2_w 285, 3) := by decide +kernel
theorem dX12_end_12 : decode cX12_end 12 = .ok (.invokestatic 287, 3) := by decide +kernel
theorem dX12_end_15 : decode cX12_end 15 = .ok (.ifCond .ne 7, 3) := by decide +kernel
theorem dX12_end_18 : decode cX12_end 18 = .ok (.iconst 1, 1) := by decide +kernel
theorem dX12_end_19 : decode cX12_end 19 = .ok (.goto 4, 3) := by decide +kernel
theorem dX12_end_22 : decode cX12_end 22 = .ok (.iconst 0, 1) := by decide +kernel
theorem dX12_end_23 : decode cX12_end 23 = .ok (.iconst 1, 1) := by decide +kernel
theorem dX12_end_24 : decode cX12_end 24 = .ok (.invokevirtual 277, 3) := by decide +kernel
theorem dX12_end_27 : decode cX12_end 27 = .ok (.ifCond .ne 25, 3) := by decide +kernel
theorem dX12_end_30 : decode cX12_end 30 = .ok (.aload_n 0, 1) := by decide +kernel
theorem dX12_end_31 : decode cX12_end 31 = .ok (.aload_n 0, 1) := by decide +kernel
theorem dX12_end_32 : decode cX12_end 32 = .ok (.getfield 274, 3) := by decide +kernel
theorem dX12_end_35 : decode cX12_end 35 = .ok (.bipush 20, 2) := by decide +kernel
theorem dX12_end_37 : decode cX12_end 37 = .ok (.if_icmp .ge 7, 3) := by decide +kernel
theorem dX12_end_40 : decode cX12_end 40 = .ok (.iconst 1, 1) := by decide +kernel
theorem dX12_end_41 : decode cX12_end 41 = .ok (.goto 4, 3) := by decide +kernel
theorem dX12_end_45 : decode cX12_end 45 = .ok (.iconst 2, 1) := by decide +kernel
theorem dX12_end_46 : decode cX12_end 46 = .ok (.invokevirtual 277, 3) := by decide +kernel
theorem dX12_end_49 : decode cX12_end 49 = .ok (.ifCond .eq 5, 3) := by decide +kernel
theorem dX12_end_52 : decode cX12_end 52 = .ok (.iconst 0, 1) := by decide +kernel
theorem dX12_end_53 : decode cX12_end 53 = .ok (.ireturn, 1) := by decide +kernel
theorem dL_area_0 : decode cL_area 0 = .ok (.aload_n 2, 1) := by decide +kernel
theorem dL_area_1 : decode cL_area 1 = .ok (.iconst 0, 1) := by decide +kernel
theorem dL_area_2 : decode cL_area 2 = .ok (.aload_n 0, 1) := by decide +kernel
theorem dL_area_3 : decode cL_area 3 = .ok (.iload_n 1, 1) := by decide +kernel
theorem dL_area_4 : decode cL_area 4 = .ok (.invokevirtual 85, 3) := by decide +kernel
theorem dL_area_11 : decode cL_area 11 = .ok (.astore_n 3, 1) := by decide +kernel
theorem dL_area_12 : decode cL_area 12 = .ok (.iconst 1, 1) := by decide +kernel
theorem dL_area_13 : decode cL_area 13 = .ok (.ireturn, 1) := by decide +kernel
theorem dL_area_14 : decode cL_area 14 = .ok (.astore_n 3, 1) := by decide +kernel
theorem dL_area_15 : decode cL_area 15 = .ok (.iconst 2, 1) := by decide +kernel
theorem dL_area_16 : decode cL_area 16 = .ok (.ireturn, 1) := by decide +kernel
theorem dX11_area_0 : decode cX11_area 0 = .ok (.aload_n 0, 1) := by decide +kernel
theorem dX11_area_1 : decode cX11_area 1 = .ok (.iload_n 1, 1) := by decide +kernel
theorem dX11_area_2 : decode cX11_area 2 = .ok (.invokevirtual 140, 3) := by decide +kernel
theorem dX11_area_5 : decode cX11_area 5 = .ok (.astore_n 2, 1) := by decide +kernel
theorem dX11_area_6 : decode cX11_area 6 = .ok (.aload_n 2, 1) := by decide +kernel
theorem dX11_area_7 : decode cX11_area 7 = .ok (.invokestatic 172, 3) := by decide +kernel
theorem dX12_area_0 : decode cX12_area 0 = .ok (.aload_n 0, 1) := by decide +kernel
theorem dX12_area_1 : decode cX12_area 1 = .ok (.iconst 0, 1) := by decide +kernel
theorem dX12_area_2 : decode cX12_area 2 = .ok (.putfield 271, 3) := by decide +kernel
theorem dX12_area_5 : decode cX12_area 5 = .ok (.aload_n 0, 1) := by decide +kernel
theorem dX12_area_6 : decode cX12_area 6 = .ok (.iload_n 1, 1) := by decide +kernel
theorem dX12_area_7 : decode cX12_area 7 = .ok (.invokestatic 440, 3) := by decide +kernel
theorem dX12_area_10 : decode cX12_area 10 = .ok (.ifCond .ne 7, 3) := by decide +kernel
theorem dX12_area_13 : decode cX12_area 13 = .ok (.iconst 1, 1) := by decide +kernel
theorem dX12_area_14 : decode cX12_area 14 = .ok (.goto 4, 3) := by decide +kernel
theorem dX12_area_17 : decode cX12_area 17 = .ok (.iconst 0, 1) := by decide +kernel
theorem dX12_area_18 : decode cX12_area 18 = .ok (.iconst 1, 1) := by decide +kernel
theorem dX12_area_19 : decode cX12_area 19 = .ok (.invokevirtual 277, 3) := by decide +kernel
theorem dX12_area_22 : decode cX12_area 22 = .ok (.ifCond .ne 24, 3) := by decide +kernel
theorem dX12_area_25 : decode cX12_area 25 = .ok (.aload_n 0, 1) := by decide +kernel
theorem dX12_area_26 : decode cX12_area 26 = .ok (.aload_n 0, 1) := by decide +kernel
theorem dX12_area_27 : decode cX12_area 27 = .ok (.iload_n 1, 1) := by decide +kernel
theorem dX12_area_28 : decode cX12_area 28 = .ok (.invokevirtual 545, 3) := by decide +kernel
theorem dX12_area_31 : decode cX12_area 31 = .ok (.ifCond .ne 7, 3) := by decide +kernel
theorem dX12_area_34 : decode cX12_area 34 = .ok (.iconst 1, 1) := by decide +kernel
theorem dX12_area_35 : decode cX12_area 35 = .ok (.goto 4, 3) := by decide +kernel
theorem dX12_area_39 : decode cX12_area 39 = .ok (.iconst 2, 1) := by decide +kernel
theorem dX12_area_40 : decode cX12_area 40 = .ok (.invokevirtual 277, 3) := by decide +kernel
theorem dX12_area_43 : decode cX12_area 43 = .ok (.ifCond .eq 5, 3) := by decide +kernel
theorem dX12_area_46 : decode cX12_area 46 = .ok (.lconst 0, 1) := by decide +kernel
theorem dX12_area_47 : decode cX12_area 47 = .ok (.lreturn, 1) := by decide +kernel
theorem dX11_mustBeThere_0 : decode cX11_mustBeThere 0 = .ok (.aload_n 0, 1) := by decide +kernel
theorem dX11_mustBeThere_1 : decode cX11_mustBeThere 1 = .ok (.invokevirtual 184, 3) := by decide +kernel
theorem dX11_mustBeThere_4 : decode cX11_mustBeThere 4 = .ok (.ifCond .ne 11, 3) := by decide +kernel
theorem dX11_mustBeThere_7 : decode cX11_mustBeThere 7 = .ok (.new 110, 3) := by decide +kernel
theorem dX11_mustBeThere_10 : decode cX11_mustBeThere 10 = .ok (.dup, 1) := by decide +kernel
theorem dX11_mustBeThere_11 : decode cX11_mustBeThere 11 = .ok (.invokespecial 112, 3) := by decide +kernel
theorem dX11_mustBeThere_14 : decode cX11_mustBeThere 14 = .ok (.athrow, 1) := by decide +kernel
theorem dX6_isThere_0 : decode cX6_isThere 0 = .ok (.aload_n 0, 1) := by decide +kernel
theorem dX6_isThere_1 : decode cX6_isThere 1 = .ok (.getfield 21, 3) := by decide +kernel
theorem dX6_isThere_4 : decode cX6_isThere 4 = .ok (.ifCond .le 7, 3) := by decide +kernel
theorem dX6_isThere_11 : decode cX6_isThere 11 = .ok (.iconst 0, 1) := by decide +kernel
theorem dX6_isThere_12 : decode cX6_isThere 12 = .ok (.ireturn, 1) := by decide +kernel
theorem dX12_has_0 : decode cX12_has 0 = .ok (.aload_n 0, 1) := by decide +kernel
theorem dX12_has_1 : decode cX12_has 1 = .ok (.getfield 18, 3) := by decide +kernel
theorem dX12_has_4 : decode cX12_has 4 = .ok (.iload_n 1, 1) := by decide +kernel
theorem dX12_has_5 : decode cX12_has 5 = .ok (.iaload, 1) := by decide +kernel
theorem dX12_has_6 : decode cX12_has 6 = .ok (.ifCond .le 7, 3) := by decide +kernel
theorem dX12_has_13 : decode cX12_has 13 = .ok (.iconst 0, 1) := by decide +kernel
theorem dX12_has_14 : decode cX12_has 14 = .ok (.ireturn, 1) := by decide +kernel
theorem dL_law_296 : decode cL_law 296 = .ok (.aload_n 1, 1) := by decide +kernel
theorem dL_law_297 : decode cL_law 297 = .ok (.aload_n 0, 1) := by decide +kernel
theorem dL_law_298 : decode cL_law 298 = .ok (.iload 4, 2) := by decide +kernel
theorem dL_law_300 : decode cL_law 300 = .ok (.iconst 1, 1) := by decide +kernel
theorem dL_law_301 : decode cL_law 301 = .ok (.iadd, 1) := by decide +kernel
theorem dL_law_302 : decode cL_law 302 = .ok (.iaload, 1) := by decide +kernel
theorem dL_law_303 : decode cL_law 303 = .ok (.aload_n 3, 1) := by decide +kernel
theorem dL_law_304 : decode cL_law 304 = .ok (.invokestatic 140, 3) := by decide +kernel
theorem dL_law_307 : decode cL_law 307 = .ok (.istore 5, 2) := by decide +kernel
theorem dL_law_309 : decode cL_law 309 = .ok (.aload_n 2, 1) := by decide +kernel
theorem dL_law_310 : decode cL_law 310 = .ok (.aload_n 0, 1) := by decide +kernel
theorem dL_law_311 : decode cL_law 311 = .ok (.iload 4, 2) := by decide +kernel
theorem dL_law_313 : decode cL_law 313 = .ok (.iconst 1, 1) := by decide +kernel
theorem dL_law_314 : decode cL_law 314 = .ok (.iadd, 1) := by decide +kernel
theorem dL_law_315 : decode cL_law 315 = .ok (.iaload, 1) := by decide +kernel
theorem dL_law_316 : decode cL_law 316 = .ok (.invokevirtual 143, 3) := by decide +kernel
theorem dL_law_319 : decode cL_law 319 = .ok (.istore 6, 2) := by decide +kernel
theorem dL_law_321 : decode cL_law 321 = .ok (.aload_n 2, 1) := by decide +kernel
theorem dL_law_322 : decode cL_law 322 = .ok (.invokevirtual 136, 3) := by decide +kernel
theorem dL_law_325 : decode cL_law 325 = .ok (.iload 5, 2) := by decide +kernel
theorem dL_law_327 : decode cL_law 327 = .ok (.if_icmp .eq 5, 3) := by decide +kernel
theorem dL_law_332 : decode cL_law 332 = .ok (.iload 5, 2) := by decide +kernel
theorem dL_law_334 : decode cL_law 334 = .ok (.ifCond .ne 15, 3) := by decide +kernel
theorem dL_law_349 : decode cL_law 349 = .ok (.goto 2100, 3) := by decide +kernel
theorem dL_law_352 : decode cL_law 352 = .ok (.aload_n 1, 1) := by decide +kernel
theorem dL_law_353 : decode cL_law 353 = .ok (.invokevirtual 144, 3) := by decide +kernel
theorem dL_law_356 : decode cL_law 356 = .ok (.aload_n 2, 1) := by decide +kernel
theorem dL_law_357 : decode cL_law 357 = .ok (.invokevirtual 147, 3) := by decide +kernel
theorem dL_law_360 : decode cL_law 360 = .ok (.if_icmp .eq 2089, 3) := by decide +kernel
theorem dL_law_477 : decode cL_law 477 = .ok (.aload_n 1, 1) := by decide +kernel
theorem dL_law_478 : decode cL_law 478 = .ok (.aload_n 0, 1) := by decide +kernel
theorem dL_law_479 : decode cL_law 479 = .ok (.iload 4, 2) := by decide +kernel
theorem dL_law_481 : decode cL_law 481 = .ok (.iconst 1, 1) := by decide +kernel
theorem dL_law_482 : decode cL_law 482 = .ok (.iadd, 1) := by decide +kernel
theorem dL_law_483 : decode cL_law 483 = .ok (.iaload, 1) := by decide +kernel
theorem dL_law_484 : decode cL_law 484 = .ok (.aload_n 3, 1) := by decide +kernel
theorem dL_law_485 : decode cL_law 485 = .ok (.invokestatic 154, 3) := by decide +kernel
theorem dL_law_488 : decode cL_law 488 = .ok (.istore 5, 2) := by decide +kernel
theorem dL_law_490 : decode cL_law 490 = .ok (.aload_n 2, 1) := by decide +kernel
theorem dL_law_491 : decode cL_law 491 = .ok (.aload_n 0, 1) := by decide +kernel
theorem dL_law_492 : decode cL_law 492 = .ok (.iload 4, 2) := by decide +kernel
theorem dL_law_494 : decode cL_law 494 = .ok (.iconst 1, 1) := by decide +kernel
theorem dL_law_495 : decode cL_law 495 = .ok (.iadd, 1) := by decide +kernel
theorem dL_law_496 : decode cL_law 496 = .ok (.iaload, 1) := by decide +kernel
theorem dL_law_497 : decode cL_law 497 = .ok (.invokevirtual 156, 3) := by decide +kernel
theorem dL_law_500 : decode cL_law 500 = .ok (.istore 6, 2) := by decide +kernel
theorem dL_law_502 : decode cL_law 502 = .ok (.aload_n 2, 1) := by decide +kernel
theorem dL_law_503 : decode cL_law 503 = .ok (.invokevirtual 136, 3) := by decide +kernel
theorem dL_law_506 : decode cL_law 506 = .ok (.iload 5, 2) := by decide +kernel
theorem dL_law_508 : decode cL_law 508 = .ok (.if_icmp .eq 5, 3) := by decide +kernel
theorem dL_law_513 : decode cL_law 513 = .ok (.iload 5, 2) := by decide +kernel
theorem dL_law_515 : decode cL_law 515 = .ok (.ifCond .ne 15, 3) := by decide +kernel
theorem dL_law_518 : decode cL_law 518 = .ok (.aload_n 3, 1) := by decide +kernel
theorem dL_law_519 : decode cL_law 519 = .ok (.iconst 0, 1) := by decide +kernel
theorem dL_law_520 : decode cL_law 520 = .ok (.laload, 1) := by decide +kernel
theorem dL_law_521 : decode cL_law 521 = .ok (.iload 6, 2) := by decide +kernel
theorem dL_law_523 : decode cL_law 523 = .ok (.i2l, 1) := by decide +kernel
theorem dL_law_524 : decode cL_law 524 = .ok (.lcmp, 1) := by decide +kernel
theorem dL_law_525 : decode cL_law 525 = .ok (.ifCond .eq 5, 3) := by decide +kernel
theorem dL_law_530 : decode cL_law 530 = .ok (.goto 1919, 3) := by decide +kernel
theorem dL_law_657 : decode cL_law 657 = .ok (.aload_n 1, 1) := by decide +kernel
theorem dL_law_658 : decode cL_law 658 = .ok (.aload_n 0, 1) := by decide +kernel
theorem dL_law_659 : decode cL_law 659 = .ok (.iload 4, 2) := by decide +kernel
theorem dL_law_661 : decode cL_law 661 = .ok (.iconst 1, 1) := by decide +kernel
theorem dL_law_662 : decode cL_law 662 = .ok (.iadd, 1) := by decide +kernel
theorem dL_law_663 : decode cL_law 663 = .ok (.iaload, 1) := by decide +kernel
theorem dL_law_664 : decode cL_law 664 = .ok (.aload_n 3, 1) := by decide +kernel
theorem dL_law_665 : decode cL_law 665 = .ok (.invokestatic 164, 3) := by decide +kernel
theorem dL_law_668 : decode cL_law 668 = .ok (.istore 5, 2) := by decide +kernel
theorem dL_law_670 : decode cL_law 670 = .ok (.aload_n 2, 1) := by decide +kernel
theorem dL_law_671 : decode cL_law 671 = .ok (.aload_n 0, 1) := by decide +kernel
theorem dL_law_672 : decode cL_law 672 = .ok (.iload 4, 2) := by decide +kernel
theorem dL_law_674 : decode cL_law 674 = .ok (.iconst 1, 1) := by decide +kernel
theorem dL_law_675 : decode cL_law 675 = .ok (.iadd, 1) := by decide +kernel
theorem dL_law_676 : decode cL_law 676 = .ok (.iaload, 1) := by decide +kernel
theorem dL_law_677 : decode cL_law 677 = .ok (.invokevirtual 166, 3) := by decide +kernel
theorem dL_law_680 : decode cL_law 680 = .ok (.istore 6, 2) := by decide +kernel
theorem dL_law_682 : decode cL_law 682 = .ok (.aload_n 2, 1) := by decide +kernel
theorem dL_law_683 : decode cL_law 683 = .ok (.invokevirtual 136, 3) := by decide +kernel
theorem dL_law_686 : decode cL_law 686 = .ok (.iload 5, 2) := by decide +kernel
theorem dL_law_688 : decode cL_law 688 = .ok (.if_icmp .eq 5, 3) := by decide +kernel
theorem dL_law_693 : decode cL_law 693 = .ok (.iload 5, 2) := by decide +kernel
theorem dL_law_695 : decode cL_law 695 = .ok (.ifCond .ne 15, 3) := by decide +kernel
theorem dL_law_710 : decode cL_law 710 = .ok (.goto 1739, 3) := by decide +kernel
theorem dL_law_975 : decode cL_law 975 = .ok (.aload_n 1, 1) := by decide +kernel
theorem dL_law_976 : decode cL_law 976 = .ok (.aload_n 0, 1) := by decide +kernel
theorem dL_law_977 : decode cL_law 977 = .ok (.iload 4, 2) := by decide +kernel
theorem dL_law_979 : decode cL_law 979 = .ok (.iconst 1, 1) := by decide +kernel
theorem dL_law_980 : decode cL_law 980 = .ok (.iadd, 1) := by decide +kernel
theorem dL_law_981 : decode cL_law 981 = .ok (.iaload, 1) := by decide +kernel
theorem dL_law_982 : decode cL_law 982 = .ok (.aload_n 3, 1) := by decide +kernel
theorem dL_law_983 : decode cL_law 983 = .ok (.invokestatic 179, 3) := by decide +kernel
theorem dL_law_986 : decode cL_law 986 = .ok (.istore 5, 2) := by decide +kernel
theorem dL_law_988 : decode cL_law 988 = .ok (.aload_n 2, 1) := by decide +kernel
theorem dL_law_989 : decode cL_law 989 = .ok (.aload_n 0, 1) := by decide +kernel
theorem dL_law_990 : decode cL_law 990 = .ok (.iload 4, 2) := by decide +kernel
theorem dL_law_992 : decode cL_law 992 = .ok (.iconst 1, 1) := by decide +kernel
theorem dL_law_993 : decode cL_law 993 = .ok (.iadd, 1) := by decide +kernel
theorem dL_law_994 : decode cL_law 994 = .ok (.iaload, 1) := by decide +kernel
theorem dL_law_995 : decode cL_law 995 = .ok (.invokevirtual 181, 3) := by decide +kernel
theorem dL_law_998 : decode cL_law 998 = .ok (.istore 6, 2) := by decide +kernel
theorem dL_law_1000 : decode cL_law 1000 = .ok (.aload_n 2, 1) := by decide +kernel
theorem dL_law_1001 : decode cL_law 1001 = .ok (.invokevirtual 136, 3) := by decide +kernel
theorem dL_law_1004 : decode cL_law 1004 = .ok (.iload 5, 2) := by decide +kernel
theorem dL_law_1006 : decode cL_law 1006 = .ok (.if_icmp .eq 5, 3) := by decide +kernel
theorem dL_law_1011 : decode cL_law 1011 = .ok (.iload 5, 2) := by decide +kernel
theorem dL_law_1013 : decode cL_law 1013 = .ok (.ifCond .ne 15, 3) := by decide +kernel
theorem dL_law_1016 : decode cL_law 1016 = .ok (.aload_n 3, 1) := by decide +kernel
theorem dL_law_1017 : decode cL_law 1017 = .ok (.iconst 0, 1) := by decide +kernel
theorem dL_law_1018 : decode cL_law 1018 = .ok (.laload, 1) := by decide +kernel
theorem dL_law_1019 : decode cL_law 1019 = .ok (.iload 6, 2) := by decide +kernel
theorem dL_law_1021 : decode cL_law 1021 = .ok (.i2l, 1) := by decide +kernel
theorem dL_law_1022 : decode cL_law 1022 = .ok (.lcmp, 1) := by decide +kernel
theorem dL_law_1023 : decode cL_law 1023 = .ok (.ifCond .eq 5, 3) := by decide +kernel
theorem dL_law_1028 : decode cL_law 1028 = .ok (.goto 1421, 3) := by decide +kernel
theorem dL_law_1574 : decode cL_law 1574 = .ok (.aload_n 1, 1) := by decide +kernel
theorem dL_law_1575 : decode cL_law 1575 = .ok (.aload_n 0, 1) := by decide +kernel
theorem dL_law_1576 : decode cL_law 1576 = .ok (.iload 4, 2) := by decide +kernel
theorem dL_law_1578 : decode cL_law 1578 = .ok (.iconst 1, 1) := by decide +kernel
theorem dL_law_1579 : decode cL_law 1579 = .ok (.iadd, 1) := by decide +kernel
theorem dL_law_1580 : decode cL_law 1580 = .ok (.iaload, 1) := by decide +kernel
theorem dL_law_1581 : decode cL_law 1581 = .ok (.aload_n 3, 1) := by decide +kernel
theorem dL_law_1582 : decode cL_law 1582 = .ok (.invokestatic 205, 3) := by decide +kernel
theorem dL_law_1585 : decode cL_law 1585 = .ok (.istore 5, 2) := by decide +kernel
theorem dL_law_1587 : decode cL_law 1587 = .ok (.aload_n 2, 1) := by decide +kernel
theorem dL_law_1588 : decode cL_law 1588 = .ok (.aload_n 0, 1) := by decide +kernel
theorem dL_law_1589 : decode cL_law 1589 = .ok (.iload 4, 2) := by decide +kernel
theorem dL_law_1591 : decode cL_law 1591 = .ok (.iconst 1, 1) := by decide +kernel
theorem dL_law_1592 : decode cL_law 1592 = .ok (.iadd, 1) := by decide +kernel
theorem dL_law_1593 : decode cL_law 1593 = .ok (.iaload, 1) := by decide +kernel
theorem dL_law_1594 : decode cL_law 1594 = .ok (.invokevirtual 207, 3) := by decide +kernel
theorem dL_law_1597 : decode cL_law 1597 = .ok (.lstore 6, 2) := by decide +kernel
theorem dL_law_1599 : decode cL_law 1599 = .ok (.aload_n 2, 1) := by decide +kernel
theorem dL_law_1600 : decode cL_law 1600 = .ok (.invokevirtual 136, 3) := by decide +kernel
theorem dL_law_1603 : decode cL_law 1603 = .ok (.iload 5, 2) := by decide +kernel
theorem dL_law_1605 : decode cL_law 1605 = .ok (.if_icmp .eq 5, 3) := by decide +kernel
theorem dL_law_1610 : decode cL_law 1610 = .ok (.iload 5, 2) := by decide +kernel
theorem dL_law_1612 : decode cL_law 1612 = .ok (.ifCond .ne 14, 3) := by decide +kernel
theorem dL_law_1626 : decode cL_law 1626 = .ok (.goto 823, 3) := by decide +kernel
theorem dL_law_1881 : decode cL_law 1881 = .ok (.aload_n 1, 1) := by decide +kernel
theorem dL_law_1882 : decode cL_law 1882 = .ok (.aload_n 0, 1) := by decide +kernel
theorem dL_law_1883 : decode cL_law 1883 = .ok (.iload 4, 2) := by decide +kernel
theorem dL_law_1885 : decode cL_law 1885 = .ok (.iconst 1, 1) := by decide +kernel
theorem dL_law_1886 : decode cL_law 1886 = .ok (.iadd, 1) := by decide +kernel
theorem dL_law_1887 : decode cL_law 1887 = .ok (.iaload, 1) := by decide +kernel
theorem dL_law_1888 : decode cL_law 1888 = .ok (.aload_n 3, 1) := by decide +kernel
theorem dL_law_1889 : decode cL_law 1889 = .ok (.invokestatic 217, 3) := by decide +kernel
theorem dL_law_1892 : decode cL_law 1892 = .ok (.istore 5, 2) := by decide +kernel
theorem dL_law_1894 : decode cL_law 1894 = .ok (.aload_n 2, 1) := by decide +kernel
theorem dL_law_1895 : decode cL_law 1895 = .ok (.aload_n 0, 1) := by decide +kernel
theorem dL_law_1896 : decode cL_law 1896 = .ok (.iload 4, 2) := by decide +kernel
theorem dL_law_1898 : decode cL_law 1898 = .ok (.iconst 1, 1) := by decide +kernel
theorem dL_law_1899 : decode cL_law 1899 = .ok (.iadd, 1) := by decide +kernel
theorem dL_law_1900 : decode cL_law 1900 = .ok (.iaload, 1) := by decide +kernel
theorem dL_law_1901 : decode cL_law 1901 = .ok (.invokevirtual 219, 3) := by decide +kernel
theorem dL_law_1904 : decode cL_law 1904 = .ok (.istore 6, 2) := by decide +kernel
theorem dL_law_1906 : decode cL_law 1906 = .ok (.aload_n 2, 1) := by decide +kernel
theorem dL_law_1907 : decode cL_law 1907 = .ok (.invokevirtual 136, 3) := by decide +kernel
theorem dL_law_1910 : decode cL_law 1910 = .ok (.iload 5, 2) := by decide +kernel
theorem dL_law_1912 : decode cL_law 1912 = .ok (.if_icmp .eq 5, 3) := by decide +kernel
theorem dL_law_1917 : decode cL_law 1917 = .ok (.iload 5, 2) := by decide +kernel
theorem dL_law_1919 : decode cL_law 1919 = .ok (.ifCond .ne 15, 3) := by decide +kernel
theorem dL_law_1934 : decode cL_law 1934 = .ok (.goto 515, 3) := by decide +kernel
theorem dL_law_1937 : decode cL_law 1937 = .ok (.aload_n 1, 1) := by decide +kernel
theorem dL_law_1938 : decode cL_law 1938 = .ok (.aload_n 0, 1) := by decide +kernel
theorem dL_law_1939 : decode cL_law 1939 = .ok (.iload 4, 2) := by decide +kernel
theorem dL_law_1941 : decode cL_law 1941 = .ok (.iconst 1, 1) := by decide +kernel
theorem dL_law_1942 : decode cL_law 1942 = .ok (.iadd, 1) := by decide +kernel
theorem dL_law_1943 : decode cL_law 1943 = .ok (.iaload, 1) := by decide +kernel
theorem dL_law_1944 : decode cL_law 1944 = .ok (.aload_n 0, 1) := by decide +kernel
theorem dL_law_1945 : decode cL_law 1945 = .ok (.iload 4, 2) := by decide +kernel
theorem dL_law_1947 : decode cL_law 1947 = .ok (.iconst 2, 1) := by decide +kernel
theorem dL_law_1948 : decode cL_law 1948 = .ok (.iadd, 1) := by decide +kernel
theorem dL_law_1949 : decode cL_law 1949 = .ok (.iaload, 1) := by decide +kernel
theorem dL_law_1950 : decode cL_law 1950 = .ok (.aload_n 3, 1) := by decide +kernel
theorem dL_law_1951 : decode cL_law 1951 = .ok (.invokestatic 220, 3) := by decide +kernel
theorem dL_law_1954 : decode cL_law 1954 = .ok (.istore 5, 2) := by decide +kernel
theorem dL_law_1956 : decode cL_law 1956 = .ok (.aload_n 2, 1) := by decide +kernel
theorem dL_law_1957 : decode cL_law 1957 = .ok (.aload_n 0, 1) := by decide +kernel
theorem dL_law_1958 : decode cL_law 1958 = .ok (.iload 4, 2) := by decide +kernel
theorem dL_law_1960 : decode cL_law 1960 = .ok (.iconst 1, 1) := by decide +kernel
theorem dL_law_1961 : decode cL_law 1961 = .ok (.iadd, 1) := by decide +kernel
theorem dL_law_1962 : decode cL_law 1962 = .ok (.iaload, 1) := by decide +kernel
theorem dL_law_1963 : decode cL_law 1963 = .ok (.aload_n 0, 1) := by decide +kernel
theorem dL_law_1964 : decode cL_law 1964 = .ok (.iload 4, 2) := by decide +kernel
theorem dL_law_1966 : decode cL_law 1966 = .ok (.iconst 2, 1) := by decide +kernel
theorem dL_law_1967 : decode cL_law 1967 = .ok (.iadd, 1) := by decide +kernel
theorem dL_law_1968 : decode cL_law 1968 = .ok (.iaload, 1) := by decide +kernel
theorem dL_law_1969 : decode cL_law 1969 = .ok (.invokevirtual 222, 3) := by decide +kernel
theorem dL_law_1972 : decode cL_law 1972 = .ok (.istore 6, 2) := by decide +kernel
theorem dL_law_1974 : decode cL_law 1974 = .ok (.aload_n 2, 1) := by decide +kernel
theorem dL_law_1975 : decode cL_law 1975 = .ok (.invokevirtual 136, 3) := by decide +kernel
theorem dL_law_1978 : decode cL_law 1978 = .ok (.iload 5, 2) := by decide +kernel
theorem dL_law_1980 : decode cL_law 1980 = .ok (.if_icmp .eq 5, 3) := by decide +kernel
theorem dL_law_1985 : decode cL_law 1985 = .ok (.iload 5, 2) := by decide +kernel
theorem dL_law_1987 : decode cL_law 1987 = .ok (.ifCond .ne 15, 3) := by decide +kernel
theorem dL_law_2002 : decode cL_law 2002 = .ok (.goto 447, 3) := by decide +kernel
theorem dL_law_2005 : decode cL_law 2005 = .ok (.aload_n 1, 1) := by decide +kernel
theorem dL_law_2006 : decode cL_law 2006 = .ok (.aload_n 0, 1) := by decide +kernel
theorem dL_law_2007 : decode cL_law 2007 = .ok (.iload 4, 2) := by decide +kernel
theorem dL_law_2009 : decode cL_law 2009 = .ok (.iconst 1, 1) := by decide +kernel
theorem dL_law_2010 : decode cL_law 2010 = .ok (.iadd, 1) := by decide +kernel
theorem dL_law_2011 : decode cL_law 2011 = .ok (.iaload, 1) := by decide +kernel
theorem dL_law_2012 : decode cL_law 2012 = .ok (.aload_n 0, 1) := by decide +kernel
theorem dL_law_2013 : decode cL_law 2013 = .ok (.iload 4, 2) := by decide +kernel
theorem dL_law_2015 : decode cL_law 2015 = .ok (.iconst 2, 1) := by decide +kernel
theorem dL_law_2016 : decode cL_law 2016 = .ok (.iadd, 1) := by decide +kernel
theorem dL_law_2017 : decode cL_law 2017 = .ok (.iaload, 1) := by decide +kernel
theorem dL_law_2018 : decode cL_law 2018 = .ok (.aload_n 0, 1) := by decide +kernel
theorem dL_law_2019 : decode cL_law 2019 = .ok (.iload 4, 2) := by decide +kernel
theorem dL_law_2021 : decode cL_law 2021 = .ok (.iconst 3, 1) := by decide +kernel
theorem dL_law_2022 : decode cL_law 2022 = .ok (.iadd, 1) := by decide +kernel
theorem dL_law_2023 : decode cL_law 2023 = .ok (.iaload, 1) := by decide +kernel
theorem dL_law_2024 : decode cL_law 2024 = .ok (.aload_n 3, 1) := by decide +kernel
theorem dL_law_2025 : decode cL_law 2025 = .ok (.invokestatic 223, 3) := by decide +kernel
theorem dL_law_2028 : decode cL_law 2028 = .ok (.istore 5, 2) := by decide +kernel
theorem dL_law_2030 : decode cL_law 2030 = .ok (.aload_n 2, 1) := by decide +kernel
theorem dL_law_2031 : decode cL_law 2031 = .ok (.aload_n 0, 1) := by decide +kernel
theorem dL_law_2032 : decode cL_law 2032 = .ok (.iload 4, 2) := by decide +kernel
theorem dL_law_2034 : decode cL_law 2034 = .ok (.iconst 1, 1) := by decide +kernel
theorem dL_law_2035 : decode cL_law 2035 = .ok (.iadd, 1) := by decide +kernel
theorem dL_law_2036 : decode cL_law 2036 = .ok (.iaload, 1) := by decide +kernel
theorem dL_law_2037 : decode cL_law 2037 = .ok (.aload_n 0, 1) := by decide +kernel
theorem dL_law_2038 : decode cL_law 2038 = .ok (.iload 4, 2) := by decide +kernel
theorem dL_law_2040 : decode cL_law 2040 = .ok (.iconst 2, 1) := by decide +kernel
theorem dL_law_2041 : decode cL_law 2041 = .ok (.iadd, 1) := by decide +kernel
theorem dL_law_2042 : decode cL_law 2042 = .ok (.iaload, 1) := by decide +kernel
theorem dL_law_2043 : decode cL_law 2043 = .ok (.aload_n 0, 1) := by decide +kernel
theorem dL_law_2044 : decode cL_law 2044 = .ok (.iload 4, 2) := by decide +kernel
theorem dL_law_2046 : decode cL_law 2046 = .ok (.iconst 3, 1) := by decide +kernel
theorem dL_law_2047 : decode cL_law 2047 = .ok (.iadd, 1) := by decide +kernel
theorem dL_law_2048 : decode cL_law 2048 = .ok (.iaload, 1) := by decide +kernel
theorem dL_law_2049 : decode cL_law 2049 = .ok (.invokevirtual 225, 3) := by decide +kernel
theorem dL_law_2052 : decode cL_law 2052 = .ok (.istore 6, 2) := by decide +kernel
theorem dL_law_2054 : decode cL_law 2054 = .ok (.aload_n 2, 1) := by decide +kernel
theorem dL_law_2055 : decode cL_law 2055 = .ok (.invokevirtual 136, 3) := by decide +kernel
theorem dL_law_2058 : decode cL_law 2058 = .ok (.iload 5, 2) := by decide +kernel
theorem dL_law_2060 : decode cL_law 2060 = .ok (.if_icmp .eq 5, 3) := by decide +kernel
theorem dL_law_2065 : decode cL_law 2065 = .ok (.iload 5, 2) := by decide +kernel
theorem dL_law_2067 : decode cL_law 2067 = .ok (.ifCond .ne 15, 3) := by decide +kernel
theorem dL_law_2082 : decode cL_law 2082 = .ok (.goto 367, 3) := by decide +kernel
theorem dL_law_2449 : decode cL_law 2449 = .ok (.iinc 4 6, 3) := by decide +kernel
theorem dL_law_2452 : decode cL_law 2452 = .ok (.goto (-2419), 3) := by decide +kernel
theorem dL_law_2455 : decode cL_law 2455 = .ok (.iconst 1, 1) := by decide +kernel
theorem dL_law_2456 : decode cL_law 2456 = .ok (.ireturn, 1) := by decide +kernel
abbrev M_L_found : MRec := (yL_found, cL_found, 4, (some Jvm.ClassFile.FieldType.int), [((0 : Nat), (9 : Nat), (12 : Nat), (24 : Nat))])
theorem m_L_found : en_M M_L_found 3 := ⟨t_2272, t_0, ⟨by decide +kernel, by decide +kernel⟩, by decide +kernel, by decide +kernel, by decide +kernel⟩
abbrev M_X11_found : MRec := (yX11_found, cX11_found, 2, (some Jvm.ClassFile.FieldType.int), [])
theorem m_X11_found : en_M M_X11_found 1 := ⟨t_2276, t_1, ⟨by decide +kernel, by decide +kernel⟩, by decide +kernel, by decide +kernel, by decide +kernel⟩
abbrev M_X12_found : MRec := (yX12_found, cX12_found, 2, (some Jvm.ClassFile.FieldType.int), [])
theorem m_X12_found : en_M M_X12_found 1 := ⟨t_3149, t_14, ⟨by decide +kernel, by decide +kernel⟩, by decide +kernel, by decide +kernel, by decide +kernel⟩
abbrev M_X12_in : MRec := (yX12_in, cX12_in, 6, (some Jvm.ClassFile.FieldType.boolean), [])
theorem m_X12_in : en_M M_X12_in 3 := ⟨t_2820, t_14, ⟨by decide +kernel, by decide +kernel⟩, by decide +kernel, by decide +kernel, by decide +kernel⟩
abbrev M_X12_fails : MRec := (yX12_fails, cX12_fails, 3, (some Jvm.ClassFile.FieldType.boolean), [])
theorem m_X12_fails : en_M M_X12_fails 2 := ⟨t_2808, t_14, ⟨by decide +kernel, by decide +kernel⟩, by decide +kernel, by decide +kernel, by decide +kernel⟩
abbrev M_X12_thrown : MRec := (yX12_thrown, cX12_thrown, 1, (some Jvm.ClassFile.FieldType.int), [])
theorem m_X12_thrown : en_M M_X12_thrown 0 := ⟨t_2800, t_14, ⟨by decide +kernel, by decide +kernel⟩, by decide +kernel, by decide +kernel, by decide +kernel⟩
abbrev M_L_byteAt : MRec := (yL_byteAt, cL_byteAt, 4, (some Jvm.ClassFile.FieldType.int), [((0 : Nat), (9 : Nat), (12 : Nat), (24 : Nat))])
theorem m_L_byteAt : en_M M_L_byteAt 3 := ⟨t_1138, t_0, ⟨by decide +kernel, by decide +kernel⟩, by decide +kernel, by decide +kernel, by decide +kernel⟩
abbrev M_X11_byteAt : MRec := (yX11_byteAt, cX11_byteAt, 2, (some Jvm.ClassFile.FieldType.int), [])
theorem m_X11_byteAt : en_M M_X11_byteAt 1 := ⟨t_1142, t_1, ⟨by decide +kernel, by decide +kernel⟩, by decide +kernel, by decide +kernel, by decide +kernel⟩
abbrev M_X12_byteAt : MRec := (yX12_byteAt, cX12_byteAt, 2, (some Jvm.ClassFile.FieldType.int), [])
theorem m_X12_byteAt : en_M M_X12_byteAt 1 := ⟨t_2832, t_14, ⟨by decide +kernel, by decide +kernel⟩, by decide +kernel, by decide +kernel, by decide +kernel⟩
abbrev M_X11_again : MRec := (yX11_again, cX11_again, 1, (some Jvm.ClassFile.FieldType.int), [])
theorem m_X11_again : en_M M_X11_again 0 := ⟨t_624, t_1, ⟨by decide +kernel, by decide +kernel⟩, by decide +kernel, by decide +kernel, by decide +kernel⟩
abbrev M_X12_again : MRec := (yX12_again, cX12_again, 2, (some Jvm.ClassFile.FieldType.int), [])
theorem m_X12_again : en_M M_X12_again 0 := ⟨t_2824, t_14, ⟨by decide +kernel, by decide +kernel⟩, by decide +kernel, by decide +kernel, by decide +kernel⟩
abbrev M_L_fault : MRec := (yL_fault, cL_fault, 4, (some Jvm.ClassFile.FieldType.int), [((0 : Nat), (9 : Nat), (12 : Nat), (24 : Nat))])
theorem m_L_fault : en_M M_L_fault 3 := ⟨t_1035, t_0, ⟨by decide +kernel, by decide +kernel⟩, by decide +kernel, by decide +kernel, by decide +kernel⟩
abbrev M_X11_fault : MRec := (yX11_fault, cX11_fault, 2, (some Jvm.ClassFile.FieldType.int), [])
theorem m_X11_fault : en_M M_X11_fault 1 := ⟨t_1039, t_1, ⟨by decide +kernel, by decide +kernel⟩, by decide +kernel, by decide +kernel, by decide +kernel⟩
abbrev M_X12_fault : MRec := (yX12_fault, cX12_fault, 2, (some Jvm.ClassFile.FieldType.int), [])
theorem m_X12_fault : en_M M_X12_fault 1 := ⟨t_2828, t_14, ⟨by decide +kernel, by decide +kernel⟩, by decide +kernel, by decide +kernel, by decide +kernel⟩
abbrev M_L_place : MRec := (yL_place, cL_place, 4, (some Jvm.ClassFile.FieldType.int), [((0 : Nat), (9 : Nat), (12 : Nat), (24 : Nat))])
theorem m_L_place : en_M M_L_place 3 := ⟨t_1364, t_0, ⟨by decide +kernel, by decide +kernel⟩, by decide +kernel, by decide +kernel, by decide +kernel⟩
abbrev M_X11_place : MRec := (yX11_place, cX11_place, 2, (some Jvm.ClassFile.FieldType.int), [])
theorem m_X11_place : en_M M_X11_place 1 := ⟨t_1368, t_1, ⟨by decide +kernel, by decide +kernel⟩, by decide +kernel, by decide +kernel, by decide +kernel⟩
abbrev M_X12_place : MRec := (yX12_place, cX12_place, 2, (some Jvm.ClassFile.FieldType.int), [])
theorem m_X12_place : en_M M_X12_place 1 := ⟨t_3340, t_14, ⟨by decide +kernel, by decide +kernel⟩, by decide +kernel, by decide +kernel, by decide +kernel⟩
abbrev M_L_plan : MRec := (yL_plan, cL_plan, 5, (some Jvm.ClassFile.FieldType.int), [((0 : Nat), (10 : Nat), (13 : Nat), (24 : Nat))])
theorem m_L_plan : en_M M_L_plan 4 := ⟨t_2279, t_0, ⟨by decide +kernel, by decide +kernel⟩, by decide +kernel, by decide +kernel, by decide +kernel⟩
abbrev M_X11_plan : MRec := (yX11_plan, cX11_plan, 4, (some Jvm.ClassFile.FieldType.int), [])
theorem m_X11_plan : en_M M_X11_plan 2 := ⟨t_2283, t_1, ⟨by decide +kernel, by decide +kernel⟩, by decide +kernel, by decide +kernel, by decide +kernel⟩
abbrev M_X11_slotNumbered : MRec := (yX11_slotNumbered, cX11_slotNumbered, 2, (some (Jvm.ClassFile.FieldType.object "ShapeWorkshop$Shape")), [])
theorem m_X11_slotNumbered : en_M M_X11_slotNumbered 1 := ⟨t_747, t_1, ⟨by decide +kernel, by decide +kernel⟩, by decide +kernel, by decide +kernel, by decide +kernel⟩
abbrev M_X12_plan : MRec := (yX12_plan, cX12_plan, 3, (some Jvm.ClassFile.FieldType.int), [])
theorem m_X12_plan : en_M M_X12_plan 2 := ⟨t_3109, t_14, ⟨by decide +kernel, by decide +kernel⟩, by decide +kernel, by decide +kernel, by decide +kernel⟩
abbrev M_X12_isSlot : MRec := (yX12_isSlot, cX12_isSlot, 1, (some Jvm.ClassFile.FieldType.boolean), [])
theorem m_X12_isSlot : en_M M_X12_isSlot 1 := ⟨t_2843, t_14, ⟨by decide +kernel, by decide +kernel⟩, by decide +kernel, by decide +kernel, by decide +kernel⟩
abbrev M_L_ordinate : MRec := (yL_ordinate, cL_ordinate, 6, (some Jvm.ClassFile.FieldType.int), [((0 : Nat), (12 : Nat), (15 : Nat), (24 : Nat))])
theorem m_L_ordinate : en_M M_L_ordinate 5 := ⟨t_2286, t_0, ⟨by decide +kernel, by decide +kernel⟩, by decide +kernel, by decide +kernel, by decide +kernel⟩
abbrev M_X11_ordinate : MRec := (yX11_ordinate, cX11_ordinate, 5, (some Jvm.ClassFile.FieldType.int), [])
theorem m_X11_ordinate : en_M M_X11_ordinate 3 := ⟨t_2290, t_1, ⟨by decide +kernel, by decide +kernel⟩, by decide +kernel, by decide +kernel, by decide +kernel⟩
abbrev M_X12_ordinate : MRec := (yX12_ordinate, cX12_ordinate, 4, (some Jvm.ClassFile.FieldType.int), [])
theorem m_X12_ordinate : en_M M_X12_ordinate 3 := ⟨t_3113, t_14, ⟨by decide +kernel, by decide +kernel⟩, by decide +kernel, by decide +kernel, by decide +kernel⟩
abbrev M_L_end : MRec := (yL_end, cL_end, 4, (some Jvm.ClassFile.FieldType.int), [((0 : Nat), (9 : Nat), (12 : Nat), (19 : Nat)), ((0 : Nat), (9 : Nat), (15 : Nat), (13 : Nat))])
theorem m_L_end : en_M M_L_end 3 := ⟨t_715, t_0, ⟨by decide +kernel, by decide +kernel⟩, by decide +kernel, by decide +kernel, by decide +kernel⟩
abbrev M_X11_end : MRec := (yX11_end, cX11_end, 2, (some Jvm.ClassFile.FieldType.int), [])
theorem m_X11_end : en_M M_X11_end 1 := ⟨t_720, t_1, ⟨by decide +kernel, by decide +kernel⟩, by decide +kernel, by decide +kernel, by decide +kernel⟩
abbrev M_X12_end : MRec := (yX12_end, cX12_end, 2, (some Jvm.ClassFile.FieldType.int), [])
theorem m_X12_end : en_M M_X12_end 1 := ⟨t_2816, t_14, ⟨by decide +kernel, by decide +kernel⟩, by decide +kernel, by decide +kernel, by decide +kernel⟩
abbrev M_L_area : MRec := (yL_area, cL_area, 4, (some Jvm.ClassFile.FieldType.int), [((0 : Nat), (8 : Nat), (11 : Nat), (24 : Nat)), ((0 : Nat), (8 : Nat), (14 : Nat), (13 : Nat))])
theorem m_L_area : en_M M_L_area 3 := ⟨t_2219, t_0, ⟨by decide +kernel, by decide +kernel⟩, by decide +kernel, by decide +kernel, by decide +kernel⟩
abbrev M_X11_area : MRec := (yX11_area, cX11_area, 11, (some Jvm.ClassFile.FieldType.long), [])
theorem m_X11_area : en_M M_X11_area 1 := ⟨t_2223, t_1, ⟨by decide +kernel, by decide +kernel⟩, by decide +kernel, by decide +kernel, by decide +kernel⟩
abbrev M_X12_area : MRec := (yX12_area, cX12_area, 12, (some Jvm.ClassFile.FieldType.long), [])
theorem m_X12_area : en_M M_X12_area 1 := ⟨t_3345, t_14, ⟨by decide +kernel, by decide +kernel⟩, by decide +kernel, by decide +kernel, by decide +kernel⟩
abbrev M_X11_mustBeThere : MRec := (yX11_mustBeThere, cX11_mustBeThere, 1, none, [])
theorem m_X11_mustBeThere : en_M M_X11_mustBeThere 1 := ⟨t_1049, t_1, ⟨by decide +kernel, by decide +kernel⟩, by decide +kernel, by decide +kernel, by decide +kernel⟩
abbrev M_X6_isThere : MRec := (yX6_isThere, cX6_isThere, 1, (some Jvm.ClassFile.FieldType.boolean), [])
theorem m_X6_isThere : en_M M_X6_isThere 0 := ⟨t_1053, t_2, ⟨by decide +kernel, by decide +kernel⟩, by decide +kernel, by decide +kernel, by decide +kernel⟩
abbrev M_X12_has : MRec := (yX12_has, cX12_has, 2, (some Jvm.ClassFile.FieldType.boolean), [])
theorem m_X12_has : en_M M_X12_has 1 := ⟨t_3036, t_14, ⟨by decide +kernel, by decide +kernel⟩, by decide +kernel, by decide +kernel, by decide +kernel⟩
set_option maxRecDepth 10000 in
theorem q2 {l : Launch} {E : EE} (hl : l.stackTraces = false) {h : HP} {a0 : Int32} (c0 : a0.toInt < 0) : en_C l E M_X11_found 6 1 6 [.ref 32, .int a0] h (pT "java/lang/IndexOutOfBoundsException" [] h (fun _ => True)) := by
  refine en_mk m_X11_found rfl hl (Nat.le_of_ble_eq_true rfl) ?_
  refine x_iload_n (M := M_X11_found) dX11_found_0 rfl ?_
  refine x_if_lt (M := M_X11_found) (tgt := 12) dX11_found_1 (by decide) (fun _ => ?_) (fun q => absurd ((bi_lt rfl (by decide +kernel)).mpr (by omega : (a0.toInt < 0 : Prop))) q)
  exact x_throw (M := M_X11_found) (names := en_nm) rfl dX11_found_12 dX11_found_15 dX11_found_16 dX11_found_19 (by decide +kernel) en_nm_ok (Or.inl t_748) (Or.inl t_22) (at_X11_IndexOutOfBoundsException_139) (Nat.le_of_ble_eq_true rfl) (Nat.le_of_ble_eq_true rfl) (Nat.le_of_ble_eq_true rfl) (Nat.le_of_ble_eq_true rfl) (fun n9 => ⟨rfl, (fr_tr (fr_app (List.replicate n9 none)) (fun _ h => nomatch h) fr_rf), trivial⟩)
set_option maxRecDepth 10000 in
theorem q7 {l : Launch} {E : EE} (hl : l.stackTraces = false) {h : HP} {a0 : Int32} (c0 : a0.toInt < 0) (o3 : ob h 32 = some (.inr (14, [.ref 33, .ref 162, .ref 166, .int (0 : Int32), .int (0 : Int32), .int (0 : Int32), .ref 167, .ref 170, .ref 173, .ref 177, .ref 193, .ref 208, .ref 222, .ref 238, .ref 252, .ref 274, .ref 275, .ref 276, .int (0 : Int32)]))) : en_C l E M_L_found 7 1 6 [.ref 32, .int a0, .ref 359] h (pF (some (.int (Int32.ofInt 1))) [] h (fun _ => True)) := by
  refine en_mkW m_L_found rfl hl (Nat.le_of_ble_eq_true rfl) ?_
  refine x_aload_n (M := M_L_found) dL_found_0 rfl ?_
  refine x_iconst (M := M_L_found) dL_found_1 ?_
  refine x_aload_n (M := M_L_found) dL_found_2 rfl ?_
  refine x_iload_n (M := M_L_found) dL_found_3 rfl ?_
  refine y_callVHX (M := M_L_found) (M' := M_X11_found) (i9 := 3) (nx := 13) rfl dL_found_4 m_X11_found t_2273 t_2274 t_2275 o3 rfl (q2 hl c0) rfl rfl (Nat.le_of_ble_eq_true rfl) (Nat.le_of_ble_eq_true rfl) (Nat.le_of_ble_eq_true rfl) (Nat.le_of_ble_eq_true rfl) (en_hdn (k0 := 3) [] [] rfl (fun _ h => nomatch h) (by decide +kernel) (by decide) t_739 n_750 dL_found_12) (by decide) rfl (fun h4 f5 w6 => ?_)
  refine x_iconst (M := M_L_found) dL_found_13 ?_
  exact x_iret (M := M_L_found) dL_found_14 rfl ⟨rfl, (fr_tr f5 (fun _ h => nomatch h) fr_rf), trivial⟩ (Nat.le_of_ble_eq_true rfl) (Nat.le_of_ble_eq_true rfl)
set_option maxRecDepth 10000 in
theorem q16 {l : Launch} {E : EE} (hl : l.stackTraces = false) {h : HP} {a0 : Int32} (c0 : a0.toInt < 0) : en_C l E M_X12_in 0 0 0 [.long (a0.toInt64), .long (Int64.ofInt 0), .long (Int64.ofInt (-1))] h (pR (some (.int (Int32.ofInt 0))) h) := by
  refine en_mk m_X12_in rfl hl (Nat.le_of_ble_eq_true rfl) ?_
  refine x_lload_n (M := M_X12_in) dX12_in_0 rfl ?_
  refine x_lload_n (M := M_X12_in) dX12_in_1 rfl ?_
  refine x_lcmp (M := M_X12_in) dX12_in_2 ?_
  refine x_if_lt (M := M_X12_in) (tgt := 17) dX12_in_3 (by decide) (fun _ => ?_) (fun q => absurd ((bc_lt (i_i2l rfl) (by decide +kernel)).mpr (by omega : (a0.toInt < 0 : Prop))) q)
  refine x_iconst (M := M_X12_in) dX12_in_17 ?_
  exact x_zret (M := M_X12_in) dX12_in_18 rfl (by decide) ⟨rfl, rfl⟩ (Nat.le_of_ble_eq_true rfl) (Nat.le_of_ble_eq_true rfl)
set_option maxRecDepth 10000 in
theorem q22 {l : Launch} {E : EE} (hl : l.stackTraces = false) {h : HP} {dg : Int32} (o17 : ob h 277 = some (.inr (15, ((RB dg).set 0 (.int (Int32.ofInt 0)))))) : en_C l E M_X12_fails 0 0 0 [.ref 277, .int (Int32.ofInt 1), .int (Int32.ofInt 1)] h (pF (some (.int (Int32.ofInt 1))) [277] h (fun h' => ob h' 277 = some (.inr (15, ((RB dg).set 0 (.int (Int32.ofInt 1))))) ∧ True)) := by
  refine en_mk m_X12_fails rfl hl (Nat.le_of_ble_eq_true rfl) ?_
  refine x_aload_n (M := M_X12_fails) dX12_fails_0 rfl ?_
  refine x_iload_n (M := M_X12_fails) dX12_fails_1 rfl ?_
  refine x_if_eq (M := M_X12_fails) (tgt := 16) dX12_fails_2 (by decide) (fun q => absurd q (by decide +kernel)) (fun _ => ?_)
  refine x_aload_n (M := M_X12_fails) dX12_fails_5 rfl ?_
  refine x_getf (M := M_X12_fails) (ci := 15) (C := RX12) (T := TX12) (N := 135) (ty := tyX12) cl15 dX12_fails_6 o17 0 (by decide) t_2391 (v := .int (Int32.ofInt 0)) rfl ?_
  refine x_if_ne (M := M_X12_fails) (tgt := 16) dX12_fails_9 (by decide) (fun q => absurd q (by decide +kernel)) (fun _ => ?_)
  refine x_iload_n (M := M_X12_fails) dX12_fails_12 rfl ?_
  refine x_goto (M := M_X12_fails) (tgt := 20) dX12_fails_13 (by decide) ?_
  refine y_put (M := M_X12_fails) (ci := 15) (C := RX12) (T := TX12) (N := 135) (ty := tyX12) cl15 dX12_fails_20 o17 0 (by decide) t_2391 (Or.inl rfl) (Nat.le_of_ble_eq_true rfl) rfl (fun h18 w19 f20 => ?_)
  have w21 : ob h18 277 = some (.inr (15, ((RB dg).set 0 (.int (Int32.ofInt 1))))) := by rw [w19, List.set_set]
  refine x_aload_n (M := M_X12_fails) dX12_fails_23 rfl ?_
  refine x_getf (M := M_X12_fails) (ci := 15) (C := RX12) (T := TX12) (N := 135) (ty := tyX12) cl15 dX12_fails_24 w21 0 (by decide) t_2391 (v := .int (Int32.ofInt 1)) rfl ?_
  refine x_if_eq (M := M_X12_fails) (tgt := 34) dX12_fails_27 (by decide) (fun q => absurd q (by decide +kernel)) (fun _ => ?_)
  refine x_iconst (M := M_X12_fails) dX12_fails_30 ?_
  refine x_goto (M := M_X12_fails) (tgt := 35) dX12_fails_31 (by decide) ?_
  exact x_zret (M := M_X12_fails) dX12_fails_35 rfl (by decide) ⟨rfl, (fr_tr f20 (by decide) fr_rf), ⟨w21, trivial⟩⟩ (Nat.le_of_ble_eq_true rfl) (Nat.le_of_ble_eq_true rfl)
set_option maxRecDepth 10000 in
theorem q27 {l : Launch} {E : EE} (hl : l.stackTraces = false) {h : HP} {a0 : Int32} {dg : Int32} (c0 : a0.toInt < 0) (o12 : ob h 277 = some (.inr (15, (RB dg)))) : en_C l E M_X12_found 1 0 0 [.ref 277, .int a0] h (pF (some (.int (Int32.ofInt 0))) [277] h (fun h' => ob h' 277 = some (.inr (15, ((RB dg).set 0 (.int (Int32.ofInt 1))))) ∧ True)) := by
  refine en_mk m_X12_found rfl hl (Nat.le_of_ble_eq_true rfl) ?_
  refine x_aload_n (M := M_X12_found) dX12_found_0 rfl ?_
  refine x_iconst (M := M_X12_found) dX12_found_1 ?_
  refine y_put (M := M_X12_found) (ci := 15) (C := RX12) (T := TX12) (N := 135) (ty := tyX12) cl15 dX12_found_2 o12 0 (by decide) t_2391 (Or.inl rfl) (Nat.le_of_ble_eq_true rfl) rfl (fun h13 w14 f15 => ?_)
  refine x_aload_n (M := M_X12_found) dX12_found_5 rfl ?_
  refine x_iload_n (M := M_X12_found) dX12_found_6 rfl ?_
  refine x_i2l (M := M_X12_found) dX12_found_7 ?_
  refine x_lconst (M := M_X12_found) dX12_found_8 ?_
  refine x_aload_n (M := M_X12_found) dX12_found_9 rfl ?_
  refine x_getf (M := M_X12_found) (ci := 15) (C := RX12) (T := TX12) (N := 135) (ty := tyX12) cl15 dX12_found_10 w14 16 (by decide) t_2407 (v := .int (0 : Int32)) rfl ?_
  refine x_iconst (M := M_X12_found) dX12_found_13 ?_
  refine x_isub (M := M_X12_found) dX12_found_14 ?_
  refine x_i2l (M := M_X12_found) dX12_found_15 ?_
  refine x_norm (M := M_X12_found) (st' := [.long (Int64.ofInt (-1)), .long (Int64.ofInt 0), .long (a0.toInt64), .ref 277]) rfl (vj_cons (by decide +kernel : (((0 : Int32) - (Int32.ofInt 1)).toInt64) = (Int64.ofInt (-1))) (vj_cons (by decide +kernel : (Int64.ofNat ((0 : Fin 2) : Nat)) = (Int64.ofInt 0)) rfl)) rfl rfl rfl ?_
  refine x_callSR (M := M_X12_found) (M' := M_X12_in) rfl rfl dX12_found_16 m_X12_in t_2818 t_2819 (q16 hl c0) rfl rfl (Nat.le_of_ble_eq_true rfl) (Nat.le_of_ble_eq_true rfl) (Nat.le_of_ble_eq_true rfl) (Nat.le_of_ble_eq_true rfl) ?_
  refine x_if_ne (M := M_X12_found) (tgt := 26) dX12_found_19 (by decide) (fun q => absurd q (by decide +kernel)) (fun _ => ?_)
  refine x_iconst (M := M_X12_found) dX12_found_22 ?_
  refine x_goto (M := M_X12_found) (tgt := 27) dX12_found_23 (by decide) ?_
  refine x_iconst (M := M_X12_found) dX12_found_27 ?_
  refine y_callVR (M := M_X12_found) (M' := M_X12_fails) rfl rfl dX12_found_28 m_X12_fails t_2805 t_2807 s_157 (q22 hl w14) rfl rfl w14 rfl (Nat.le_of_ble_eq_true rfl) (Nat.le_of_ble_eq_true rfl) (Nat.le_of_ble_eq_true rfl) (Nat.le_of_ble_eq_true rfl) (fun h23 f24 w25 => ?_)
  obtain ⟨o26, -⟩ := w25
  refine x_if_eq (M := M_X12_found) (tgt := 36) dX12_found_31 (by decide) (fun q => absurd q (by decide +kernel)) (fun _ => ?_)
  refine x_iconst (M := M_X12_found) dX12_found_34 ?_
  exact x_iret (M := M_X12_found) dX12_found_35 rfl ⟨rfl, (fr_tr f24 (by decide) (fr_tr f15 (by decide) fr_rf)), ⟨o26, trivial⟩⟩ (Nat.le_of_ble_eq_true rfl) (Nat.le_of_ble_eq_true rfl)
set_option maxRecDepth 10000 in
theorem q35 {l : Launch} {E : EE} (hl : l.stackTraces = false) {h : HP} {dg : Int32} (o34 : ob h 277 = some (.inr (15, ((RB dg).set 0 (.int (Int32.ofInt 1)))))) : en_C l E M_X12_thrown 0 0 0 [.ref 277] h (pR (some (.int (Int32.ofInt 1))) h) := by
  refine en_mk m_X12_thrown rfl hl (Nat.le_of_ble_eq_true rfl) ?_
  refine x_aload_n (M := M_X12_thrown) dX12_thrown_0 rfl ?_
  refine x_getf (M := M_X12_thrown) (ci := 15) (C := RX12) (T := TX12) (N := 135) (ty := tyX12) cl15 dX12_thrown_1 o34 0 (by decide) t_2391 (v := .int (Int32.ofInt 1)) rfl ?_
  exact x_iret (M := M_X12_thrown) dX12_thrown_4 rfl ⟨rfl, rfl⟩ (Nat.le_of_ble_eq_true rfl) (Nat.le_of_ble_eq_true rfl)
set_option maxRecDepth 10000 in
theorem lc25_0 {l : Launch} {E : EE} (hl : l.stackTraces = false) (nm : String) {xs : Nat → Int32} (hx : E.2.2.2.2 0 = some (7, xs)) {h : HP} {a0 : Int32} {dg : Int32} (e2 : xs 2 = a0) (c0 : a0.toInt < 0) (o8 : ob h 32 = some (.inr (14, [.ref 33, .ref 162, .ref 166, .int (0 : Int32), .int (0 : Int32), .int (0 : Int32), .ref 167, .ref 170, .ref 173, .ref 177, .ref 193, .ref 208, .ref 222, .ref 238, .ref 252, .ref 274, .ref 275, .ref 276, .int (0 : Int32)]))) (o28 : ob h 277 = some (.inr (15, (RB dg)))) : XX l E (M_law nm) 1312 342628 8074320 (fun o _ => o = .inl (some (.int 1))) 1881 [some (.ref 0), some (.ref 32), some (.ref 277), some (.ref 359), some (.int (Int32.ofInt 1)), none, none, none] [] h 328 2463747 := by
  refine x_aload_n (M := (M_law nm)) dL_law_1881 rfl ?_
  refine x_aload_n (M := (M_law nm)) dL_law_1882 rfl ?_
  refine x_iload (M := (M_law nm)) dL_law_1883 rfl ?_
  refine x_iconst (M := (M_law nm)) dL_law_1885 ?_
  refine x_iadd (M := (M_law nm)) dL_law_1886 ?_
  refine x_sald (M := (M_law nm)) dL_law_1887 (by decide) hx (vp_inD (by decide +kernel)) ?_
  refine x_top (M := (M_law nm)) (y := a0) ((congrArg xs (by decide +kernel : ((Int32.ofInt 1) + (Int32.ofInt 1)).toNatClampNeg = 2)).trans e2) ?_
  refine x_aload_n (M := (M_law nm)) dL_law_1888 rfl ?_
  refine y_callSW (M := (M_law nm)) (M' := M_L_found) rfl rfl dL_law_1889 m_L_found t_2270 t_2271 (q7 hl c0 o8) rfl rfl (Nat.le_of_ble_eq_true rfl) (Nat.le_of_ble_eq_true rfl) (Nat.le_of_ble_eq_true rfl) (Nat.le_of_ble_eq_true rfl) (fun h9 f10 w11 => ?_)
  refine x_istore (M := (M_law nm)) dL_law_1892 (Nat.le_of_ble_eq_true rfl) rfl ?_
  refine x_aload_n (M := (M_law nm)) dL_law_1894 rfl ?_
  refine x_aload_n (M := (M_law nm)) dL_law_1895 rfl ?_
  refine x_iload (M := (M_law nm)) dL_law_1896 rfl ?_
  refine x_iconst (M := (M_law nm)) dL_law_1898 ?_
  refine x_iadd (M := (M_law nm)) dL_law_1899 ?_
  refine x_sald (M := (M_law nm)) dL_law_1900 (by decide) hx (vp_inD (by decide +kernel)) ?_
  refine x_top (M := (M_law nm)) (y := a0) ((congrArg xs (by decide +kernel : ((Int32.ofInt 1) + (Int32.ofInt 1)).toNatClampNeg = 2)).trans e2) ?_
  have o29 := (f10 277 _ (by decide) o28)
  refine y_callVR (M := (M_law nm)) (M' := M_X12_found) rfl rfl dL_law_1901 m_X12_found t_3146 t_3147 t_3148 (q27 hl c0 o29) rfl rfl o29 rfl (Nat.le_of_ble_eq_true rfl) (Nat.le_of_ble_eq_true rfl) (Nat.le_of_ble_eq_true rfl) (Nat.le_of_ble_eq_true rfl) (fun h30 f31 w32 => ?_)
  obtain ⟨o33, -⟩ := w32
  refine x_istore (M := (M_law nm)) dL_law_1904 (Nat.le_of_ble_eq_true rfl) rfl ?_
  refine x_aload_n (M := (M_law nm)) dL_law_1906 rfl ?_
  refine x_callVR (M := (M_law nm)) (M' := M_X12_thrown) rfl rfl dL_law_1907 m_X12_thrown t_2797 t_2798 t_2799 (q35 hl o33) rfl rfl o33 rfl (Nat.le_of_ble_eq_true rfl) (Nat.le_of_ble_eq_true rfl) (Nat.le_of_ble_eq_true rfl) (Nat.le_of_ble_eq_true rfl) ?_
  refine x_iload (M := (M_law nm)) dL_law_1910 rfl ?_
  refine x_icmp_eq (M := (M_law nm)) (tgt := 1917) dL_law_1912 (by decide) (fun _ => ?_) (fun q => absurd q (by decide +kernel))
  refine x_iload (M := (M_law nm)) dL_law_1917 rfl ?_
  refine x_if_ne (M := (M_law nm)) (tgt := 1934) dL_law_1919 (by decide) (fun _ => ?_) (fun q => absurd q (by decide +kernel))
  refine x_goto (M := (M_law nm)) (tgt := 2449) dL_law_1934 (by decide) ?_
  refine x_iinc (M := (M_law nm)) dL_law_2449 rfl (Nat.le_of_ble_eq_true rfl) rfl ?_
  refine x_lvs (M := (M_law nm)) (lv' := [some (.ref 0), some (.ref 32), some (.ref 277), some (.ref 359), some (.int (Int32.ofInt 7)), some (.int (Int32.ofInt 1)), some (.int (Int32.ofInt 0)), none]) (by rw [(by decide +kernel : (Int32.ofInt 1) + Int32.ofInt 6 = (Int32.ofInt 7))] <;> rfl) ?_
  refine x_goto (M := (M_law nm)) (tgt := 33) dL_law_2452 (by decide) ?_
  refine x_iload (M := (M_law nm)) dL_law_33 rfl ?_
  refine x_aload_n (M := (M_law nm)) dL_law_35 rfl ?_
  refine x_slen (M := (M_law nm)) dL_law_36 (by decide) hx ?_
  refine x_bipush (M := (M_law nm)) dL_law_37 ?_
  refine x_isub (M := (M_law nm)) dL_law_39 ?_
  refine x_icmp_gt (M := (M_law nm)) (tgt := 2455) dL_law_40 (by decide) (fun _ => ?_) (fun q => absurd q (by decide +kernel))
  refine x_iconst (M := (M_law nm)) dL_law_2455 ?_
  exact x_zret (M := (M_law nm)) dL_law_2456 rfl (by decide) rfl (Nat.le_of_ble_eq_true rfl) (Nat.le_of_ble_eq_true rfl)
set_option maxRecDepth 10000 in
theorem q38 {l : Launch} {E : EE} (hl : l.stackTraces = false) {h : HP} {a0 : Int32} (c0 : ¬ (a0.toInt < 0)) (o36 : ob h 32 = some (.inr (14, [.ref 33, .ref 162, .ref 166, .int (0 : Int32), .int (0 : Int32), .int (0 : Int32), .ref 167, .ref 170, .ref 173, .ref 177, .ref 193, .ref 208, .ref 222, .ref 238, .ref 252, .ref 274, .ref 275, .ref 276, .int (0 : Int32)]))) : en_C l E M_X11_found 6 1 6 [.ref 32, .int a0] h (pT "java/lang/IndexOutOfBoundsException" [] h (fun _ => True)) := by
  refine en_mk m_X11_found rfl hl (Nat.le_of_ble_eq_true rfl) ?_
  refine x_iload_n (M := M_X11_found) dX11_found_0 rfl ?_
  refine x_if_lt (M := M_X11_found) (tgt := 12) dX11_found_1 (by decide) (fun q => absurd ((bi_lt rfl (by decide +kernel)).mp q) (by omega : ¬ (a0.toInt < 0))) (fun _ => ?_)
  refine x_iload_n (M := M_X11_found) dX11_found_4 rfl ?_
  refine x_aload_n (M := M_X11_found) dX11_found_5 rfl ?_
  refine x_getf (M := M_X11_found) (ci := 14) (C := RX11) (T := TX11) (N := 19) (ty := tyX11) cl14 dX11_found_6 o36 18 (by decide) t_581 (v := .int (0 : Int32)) rfl ?_
  refine x_icmp_lt (M := M_X11_found) (tgt := 20) dX11_found_9 (by decide) (fun q => absurd ((bi_lt rfl (by decide +kernel)).mp q) (by omega : ¬ (a0.toInt < 0))) (fun _ => ?_)
  exact x_throw (M := M_X11_found) (names := en_nm) rfl dX11_found_12 dX11_found_15 dX11_found_16 dX11_found_19 (by decide +kernel) en_nm_ok (Or.inl t_748) (Or.inl t_22) (at_X11_IndexOutOfBoundsException_139) (Nat.le_of_ble_eq_true rfl) (Nat.le_of_ble_eq_true rfl) (Nat.le_of_ble_eq_true rfl) (Nat.le_of_ble_eq_true rfl) (fun n9 => ⟨rfl, (fr_tr (fr_app (List.replicate n9 none)) (fun _ h => nomatch h) fr_rf), trivial⟩)
set_option maxRecDepth 10000 in
theorem q43 {l : Launch} {E : EE} (hl : l.stackTraces = false) {h : HP} {a0 : Int32} (c0 : ¬ (a0.toInt < 0)) (o39 : ob h 32 = some (.inr (14, [.ref 33, .ref 162, .ref 166, .int (0 : Int32), .int (0 : Int32), .int (0 : Int32), .ref 167, .ref 170, .ref 173, .ref 177, .ref 193, .ref 208, .ref 222, .ref 238, .ref 252, .ref 274, .ref 275, .ref 276, .int (0 : Int32)]))) : en_C l E M_L_found 7 1 6 [.ref 32, .int a0, .ref 359] h (pF (some (.int (Int32.ofInt 1))) [] h (fun _ => True)) := by
  refine en_mkW m_L_found rfl hl (Nat.le_of_ble_eq_true rfl) ?_
  refine x_aload_n (M := M_L_found) dL_found_0 rfl ?_
  refine x_iconst (M := M_L_found) dL_found_1 ?_
  refine x_aload_n (M := M_L_found) dL_found_2 rfl ?_
  refine x_iload_n (M := M_L_found) dL_found_3 rfl ?_
  refine y_callVHX (M := M_L_found) (M' := M_X11_found) (i9 := 3) (nx := 13) rfl dL_found_4 m_X11_found t_2273 t_2274 t_2275 o39 rfl (q38 hl c0 o39) rfl rfl (Nat.le_of_ble_eq_true rfl) (Nat.le_of_ble_eq_true rfl) (Nat.le_of_ble_eq_true rfl) (Nat.le_of_ble_eq_true rfl) (en_hdn (k0 := 3) [] [] rfl (fun _ h => nomatch h) (by decide +kernel) (by decide) t_739 n_750 dL_found_12) (by decide) rfl (fun h40 f41 w42 => ?_)
  refine x_iconst (M := M_L_found) dL_found_13 ?_
  exact x_iret (M := M_L_found) dL_found_14 rfl ⟨rfl, (fr_tr f41 (fun _ h => nomatch h) fr_rf), trivial⟩ (Nat.le_of_ble_eq_true rfl) (Nat.le_of_ble_eq_true rfl)
set_option maxRecDepth 10000 in
theorem q52 {l : Launch} {E : EE} (hl : l.stackTraces = false) {h : HP} {a0 : Int32} (c0 : ¬ (a0.toInt < 0)) : en_C l E M_X12_in 0 0 0 [.long (a0.toInt64), .long (Int64.ofInt 0), .long (Int64.ofInt (-1))] h (pR (some (.int (Int32.ofInt 0))) h) := by
  refine en_mk m_X12_in rfl hl (Nat.le_of_ble_eq_true rfl) ?_
  refine x_lload_n (M := M_X12_in) dX12_in_0 rfl ?_
  refine x_lload_n (M := M_X12_in) dX12_in_1 rfl ?_
  refine x_lcmp (M := M_X12_in) dX12_in_2 ?_
  refine x_if_lt (M := M_X12_in) (tgt := 17) dX12_in_3 (by decide) (fun q => absurd ((bc_lt (i_i2l rfl) (by decide +kernel)).mp q) (by omega : ¬ (a0.toInt < 0))) (fun _ => ?_)
  refine x_lload_n (M := M_X12_in) dX12_in_6 rfl ?_
  refine x_lload (M := M_X12_in) dX12_in_7 rfl ?_
  refine x_lcmp (M := M_X12_in) dX12_in_9 ?_
  refine x_if_gt (M := M_X12_in) (tgt := 17) dX12_in_10 (by decide) (fun _ => ?_) (fun q => absurd ((bc_gt (i_i2l rfl) (by decide +kernel)).mpr (by omega : ((-1) < a0.toInt : Prop))) q)
  refine x_iconst (M := M_X12_in) dX12_in_17 ?_
  exact x_zret (M := M_X12_in) dX12_in_18 rfl (by decide) ⟨rfl, rfl⟩ (Nat.le_of_ble_eq_true rfl) (Nat.le_of_ble_eq_true rfl)
set_option maxRecDepth 10000 in
theorem q57 {l : Launch} {E : EE} (hl : l.stackTraces = false) {h : HP} {a0 : Int32} {dg : Int32} (c0 : ¬ (a0.toInt < 0)) (o48 : ob h 277 = some (.inr (15, (RB dg)))) : en_C l E M_X12_found 1 0 0 [.ref 277, .int a0] h (pF (some (.int (Int32.ofInt 0))) [277] h (fun h' => ob h' 277 = some (.inr (15, ((RB dg).set 0 (.int (Int32.ofInt 1))))) ∧ True)) := by
  refine en_mk m_X12_found rfl hl (Nat.le_of_ble_eq_true rfl) ?_
  refine x_aload_n (M := M_X12_found) dX12_found_0 rfl ?_
  refine x_iconst (M := M_X12_found) dX12_found_1 ?_
  refine y_put (M := M_X12_found) (ci := 15) (C := RX12) (T := TX12) (N := 135) (ty := tyX12) cl15 dX12_found_2 o48 0 (by decide) t_2391 (Or.inl rfl) (Nat.le_of_ble_eq_true rfl) rfl (fun h49 w50 f51 => ?_)
  refine x_aload_n (M := M_X12_found) dX12_found_5 rfl ?_
  refine x_iload_n (M := M_X12_found) dX12_found_6 rfl ?_
  refine x_i2l (M := M_X12_found) dX12_found_7 ?_
  refine x_lconst (M := M_X12_found) dX12_found_8 ?_
  refine x_aload_n (M := M_X12_found) dX12_found_9 rfl ?_
  refine x_getf (M := M_X12_found) (ci := 15) (C := RX12) (T := TX12) (N := 135) (ty := tyX12) cl15 dX12_found_10 w50 16 (by decide) t_2407 (v := .int (0 : Int32)) rfl ?_
  refine x_iconst (M := M_X12_found) dX12_found_13 ?_
  refine x_isub (M := M_X12_found) dX12_found_14 ?_
  refine x_i2l (M := M_X12_found) dX12_found_15 ?_
  refine x_norm (M := M_X12_found) (st' := [.long (Int64.ofInt (-1)), .long (Int64.ofInt 0), .long (a0.toInt64), .ref 277]) rfl (vj_cons (by decide +kernel : (((0 : Int32) - (Int32.ofInt 1)).toInt64) = (Int64.ofInt (-1))) (vj_cons (by decide +kernel : (Int64.ofNat ((0 : Fin 2) : Nat)) = (Int64.ofInt 0)) rfl)) rfl rfl rfl ?_
  refine x_callSR (M := M_X12_found) (M' := M_X12_in) rfl rfl dX12_found_16 m_X12_in t_2818 t_2819 (q52 hl c0) rfl rfl (Nat.le_of_ble_eq_true rfl) (Nat.le_of_ble_eq_true rfl) (Nat.le_of_ble_eq_true rfl) (Nat.le_of_ble_eq_true rfl) ?_
  refine x_if_ne (M := M_X12_found) (tgt := 26) dX12_found_19 (by decide) (fun q => absurd q (by decide +kernel)) (fun _ => ?_)
  refine x_iconst (M := M_X12_found) dX12_found_22 ?_
  refine x_goto (M := M_X12_found) (tgt := 27) dX12_found_23 (by decide) ?_
  refine x_iconst (M := M_X12_found) dX12_found_27 ?_
  refine y_callVR (M := M_X12_found) (M' := M_X12_fails) rfl rfl dX12_found_28 m_X12_fails t_2805 t_2807 s_157 (q22 hl w50) rfl rfl w50 rfl (Nat.le_of_ble_eq_true rfl) (Nat.le_of_ble_eq_true rfl) (Nat.le_of_ble_eq_true rfl) (Nat.le_of_ble_eq_true rfl) (fun h53 f54 w55 => ?_)
  obtain ⟨o56, -⟩ := w55
  refine x_if_eq (M := M_X12_found) (tgt := 36) dX12_found_31 (by decide) (fun q => absurd q (by decide +kernel)) (fun _ => ?_)
  refine x_iconst (M := M_X12_found) dX12_found_34 ?_
  exact x_iret (M := M_X12_found) dX12_found_35 rfl ⟨rfl, (fr_tr f54 (by decide) (fr_tr f51 (by decide) fr_rf)), ⟨o56, trivial⟩⟩ (Nat.le_of_ble_eq_true rfl) (Nat.le_of_ble_eq_true rfl)
set_option maxRecDepth 10000 in
theorem lc25_1 {l : Launch} {E : EE} (hl : l.stackTraces = false) (nm : String) {xs : Nat → Int32} (hx : E.2.2.2.2 0 = some (7, xs)) {h : HP} {a0 : Int32} {dg : Int32} (e2 : xs 2 = a0) (c0 : ¬ (a0.toInt < 0)) (o44 : ob h 32 = some (.inr (14, [.ref 33, .ref 162, .ref 166, .int (0 : Int32), .int (0 : Int32), .int (0 : Int32), .ref 167, .ref 170, .ref 173, .ref 177, .ref 193, .ref 208, .ref 222, .ref 238, .ref 252, .ref 274, .ref 275, .ref 276, .int (0 : Int32)]))) (o58 : ob h 277 = some (.inr (15, (RB dg)))) : XX l E (M_law nm) 1312 342628 8074320 (fun o _ => o = .inl (some (.int 1))) 1881 [some (.ref 0), some (.ref 32), some (.ref 277), some (.ref 359), some (.int (Int32.ofInt 1)), none, none, none] [] h 328 2463747 := by
  refine x_aload_n (M := (M_law nm)) dL_law_1881 rfl ?_
  refine x_aload_n (M := (M_law nm)) dL_law_1882 rfl ?_
  refine x_iload (M := (M_law nm)) dL_law_1883 rfl ?_
  refine x_iconst (M := (M_law nm)) dL_law_1885 ?_
  refine x_iadd (M := (M_law nm)) dL_law_1886 ?_
  refine x_sald (M := (M_law nm)) dL_law_1887 (by decide) hx (vp_inD (by decide +kernel)) ?_
  refine x_top (M := (M_law nm)) (y := a0) ((congrArg xs (by decide +kernel : ((Int32.ofInt 1) + (Int32.ofInt 1)).toNatClampNeg = 2)).trans e2) ?_
  refine x_aload_n (M := (M_law nm)) dL_law_1888 rfl ?_
  refine y_callSW (M := (M_law nm)) (M' := M_L_found) rfl rfl dL_law_1889 m_L_found t_2270 t_2271 (q43 hl c0 o44) rfl rfl (Nat.le_of_ble_eq_true rfl) (Nat.le_of_ble_eq_true rfl) (Nat.le_of_ble_eq_true rfl) (Nat.le_of_ble_eq_true rfl) (fun h45 f46 w47 => ?_)
  refine x_istore (M := (M_law nm)) dL_law_1892 (Nat.le_of_ble_eq_true rfl) rfl ?_
  refine x_aload_n (M := (M_law nm)) dL_law_1894 rfl ?_
  refine x_aload_n (M := (M_law nm)) dL_law_1895 rfl ?_
  refine x_iload (M := (M_law nm)) dL_law_1896 rfl ?_
  refine x_iconst (M := (M_law nm)) dL_law_1898 ?_
  refine x_iadd (M := (M_law nm)) dL_law_1899 ?_
  refine x_sald (M := (M_law nm)) dL_law_1900 (by decide) hx (vp_inD (by decide +kernel)) ?_
  refine x_top (M := (M_law nm)) (y := a0) ((congrArg xs (by decide +kernel : ((Int32.ofInt 1) + (Int32.ofInt 1)).toNatClampNeg = 2)).trans e2) ?_
  have o59 := (f46 277 _ (by decide) o58)
  refine y_callVR (M := (M_law nm)) (M' := M_X12_found) rfl rfl dL_law_1901 m_X12_found t_3146 t_3147 t_3148 (q57 hl c0 o59) rfl rfl o59 rfl (Nat.le_of_ble_eq_true rfl) (Nat.le_of_ble_eq_true rfl) (Nat.le_of_ble_eq_true rfl) (Nat.le_of_ble_eq_true rfl) (fun h60 f61 w62 => ?_)
  obtain ⟨o63, -⟩ := w62
  refine x_istore (M := (M_law nm)) dL_law_1904 (Nat.le_of_ble_eq_true rfl) rfl ?_
  refine x_aload_n (M := (M_law nm)) dL_law_1906 rfl ?_
  refine x_callVR (M := (M_law nm)) (M' := M_X12_thrown) rfl rfl dL_law_1907 m_X12_thrown t_2797 t_2798 t_2799 (q35 hl o63) rfl rfl o63 rfl (Nat.le_of_ble_eq_true rfl) (Nat.le_of_ble_eq_true rfl) (Nat.le_of_ble_eq_true rfl) (Nat.le_of_ble_eq_true rfl) ?_
  refine x_iload (M := (M_law nm)) dL_law_1910 rfl ?_
  refine x_icmp_eq (M := (M_law nm)) (tgt := 1917) dL_law_1912 (by decide) (fun _ => ?_) (fun q => absurd q (by decide +kernel))
  refine x_iload (M := (M_law nm)) dL_law_1917 rfl ?_
  refine x_if_ne (M := (M_law nm)) (tgt := 1934) dL_law_1919 (by decide) (fun _ => ?_) (fun q => absurd q (by decide +kernel))
  refine x_goto (M := (M_law nm)) (tgt := 2449) dL_law_1934 (by decide) ?_
  refine x_iinc (M := (M_law nm)) dL_law_2449 rfl (Nat.le_of_ble_eq_true rfl) rfl ?_
  refine x_lvs (M := (M_law nm)) (lv' := [some (.ref 0), some (.ref 32), some (.ref 277), some (.ref 359), some (.int (Int32.ofInt 7)), some (.int (Int32.ofInt 1)), some (.int (Int32.ofInt 0)), none]) (by rw [(by decide +kernel : (Int32.ofInt 1) + Int32.ofInt 6 = (Int32.ofInt 7))] <;> rfl) ?_
  refine x_goto (M := (M_law nm)) (tgt := 33) dL_law_2452 (by decide) ?_
  refine x_iload (M := (M_law nm)) dL_law_33 rfl ?_
  refine x_aload_n (M := (M_law nm)) dL_law_35 rfl ?_
  refine x_slen (M := (M_law nm)) dL_law_36 (by decide) hx ?_
  refine x_bipush (M := (M_law nm)) dL_law_37 ?_
  refine x_isub (M := (M_law nm)) dL_law_39 ?_
  refine x_icmp_gt (M := (M_law nm)) (tgt := 2455) dL_law_40 (by decide) (fun _ => ?_) (fun q => absurd q (by decide +kernel))
  refine x_iconst (M := (M_law nm)) dL_law_2455 ?_
  exact x_zret (M := (M_law nm)) dL_law_2456 rfl (by decide) rfl (Nat.le_of_ble_eq_true rfl) (Nat.le_of_ble_eq_true rfl)
theorem lop25 {l : Launch} {E : EE} (hl : l.stackTraces = false) (nm : String) {xs : Nat → Int32} (hx : E.2.2.2.2 0 = some (7, xs)) (dg : Int32) : XX l E (M_law nm) 1312 342628 8074320 (fun o _ => o = .inl (some (.int 1))) 1881 [some (.ref 0), some (.ref 32), some (.ref 277), some (.ref 359), some (.int (Int32.ofInt 1)), none, none, none] [] (HH dg) 328 2463747 := by
  obtain ⟨a0, e2⟩ : ∃ a : Int32, xs 2 = a := ⟨_, rfl⟩
  obtain ⟨a1, e3⟩ : ∃ a : Int32, xs 3 = a := ⟨_, rfl⟩
  obtain ⟨a2, e4⟩ : ∃ a : Int32, xs 4 = a := ⟨_, rfl⟩
  obtain ⟨a3, e5⟩ : ∃ a : Int32, xs 5 = a := ⟨_, rfl⟩
  obtain ⟨a4, e6⟩ : ∃ a : Int32, xs 6 = a := ⟨_, rfl⟩
  by_cases c0 : a0.toInt < 0
  · exact lc25_0 hl nm hx e2 c0 (o_32 dg) (o_277b dg)
  · exact lc25_1 hl nm hx e2 c0 (o_32 dg) (o_277b dg)
set_option maxRecDepth 10000 in
theorem q65 {l : Launch} {E : EE} (hl : l.stackTraces = false) {h : HP} {a0 : Int32} (c0 : a0.toInt < 0) : en_C l E M_X11_byteAt 6 1 6 [.ref 32, .int a0] h (pT "java/lang/IndexOutOfBoundsException" [] h (fun _ => True)) := by
  refine en_mk m_X11_byteAt rfl hl (Nat.le_of_ble_eq_true rfl) ?_
  refine x_iload_n (M := M_X11_byteAt) dX11_byteAt_0 rfl ?_
  refine x_if_lt (M := M_X11_byteAt) (tgt := 15) dX11_byteAt_1 (by decide) (fun _ => ?_) (fun q => absurd ((bi_lt rfl (by decide +kernel)).mpr (by omega : (a0.toInt < 0 : Prop))) q)
  exact x_throw (M := M_X11_byteAt) (names := en_nm) rfl dX11_byteAt_15 dX11_byteAt_18 dX11_byteAt_19 dX11_byteAt_22 (by decide +kernel) en_nm_ok (Or.inl t_748) (Or.inl t_22) (at_X11_IndexOutOfBoundsException_139) (Nat.le_of_ble_eq_true rfl) (Nat.le_of_ble_eq_true rfl) (Nat.le_of_ble_eq_true rfl) (Nat.le_of_ble_eq_true rfl) (fun n9 => ⟨rfl, (fr_tr (fr_app (List.replicate n9 none)) (fun _ h => nomatch h) fr_rf), trivial⟩)
set_option maxRecDepth 10000 in
theorem q70 {l : Launch} {E : EE} (hl : l.stackTraces = false) {h : HP} {a0 : Int32} (c0 : a0.toInt < 0) (o66 : ob h 32 = some (.inr (14, [.ref 33, .ref 162, .ref 166, .int (0 : Int32), .int (0 : Int32), .int (0 : Int32), .ref 167, .ref 170, .ref 173, .ref 177, .ref 193, .ref 208, .ref 222, .ref 238, .ref 252, .ref 274, .ref 275, .ref 276, .int (0 : Int32)]))) : en_C l E M_L_byteAt 7 1 6 [.ref 32, .int a0, .ref 359] h (pF (some (.int (Int32.ofInt 1))) [] h (fun _ => True)) := by
  refine en_mkW m_L_byteAt rfl hl (Nat.le_of_ble_eq_true rfl) ?_
  refine x_aload_n (M := M_L_byteAt) dL_byteAt_0 rfl ?_
  refine x_iconst (M := M_L_byteAt) dL_byteAt_1 ?_
  refine x_aload_n (M := M_L_byteAt) dL_byteAt_2 rfl ?_
  refine x_iload_n (M := M_L_byteAt) dL_byteAt_3 rfl ?_
  refine y_callVHX (M := M_L_byteAt) (M' := M_X11_byteAt) (i9 := 3) (nx := 13) rfl dL_byteAt_4 m_X11_byteAt t_1139 t_1140 t_1141 o66 rfl (q65 hl c0) rfl rfl (Nat.le_of_ble_eq_true rfl) (Nat.le_of_ble_eq_true rfl) (Nat.le_of_ble_eq_true rfl) (Nat.le_of_ble_eq_true rfl) (en_hdn (k0 := 3) [] [] rfl (fun _ h => nomatch h) (by decide +kernel) (by decide) t_739 n_750 dL_byteAt_12) (by decide) rfl (fun h67 f68 w69 => ?_)
  refine x_iconst (M := M_L_byteAt) dL_byteAt_13 ?_
  exact x_iret (M := M_L_byteAt) dL_byteAt_14 rfl ⟨rfl, (fr_tr f68 (fun _ h => nomatch h) fr_rf), trivial⟩ (Nat.le_of_ble_eq_true rfl) (Nat.le_of_ble_eq_true rfl)
set_option maxRecDepth 10000 in
theorem q83 {l : Launch} {E : EE} (hl : l.stackTraces = false) {h : HP} {a0 : Int32} {dg : Int32} (c0 : a0.toInt < 0) (o75 : ob h 277 = some (.inr (15, (RB dg)))) : en_C l E M_X12_byteAt 1 0 0 [.ref 277, .int a0] h (pF (some (.int (Int32.ofInt 0))) [277] h (fun h' => ob h' 277 = some (.inr (15, ((RB dg).set 0 (.int (Int32.ofInt 1))))) ∧ True)) := by
  refine en_mk m_X12_byteAt rfl hl (Nat.le_of_ble_eq_true rfl) ?_
  refine x_aload_n (M := M_X12_byteAt) dX12_byteAt_0 rfl ?_
  refine x_iconst (M := M_X12_byteAt) dX12_byteAt_1 ?_
  refine y_put (M := M_X12_byteAt) (ci := 15) (C := RX12) (T := TX12) (N := 135) (ty := tyX12) cl15 dX12_byteAt_2 o75 0 (by decide) t_2391 (Or.inl rfl) (Nat.le_of_ble_eq_true rfl) rfl (fun h76 w77 f78 => ?_)
  refine x_aload_n (M := M_X12_byteAt) dX12_byteAt_5 rfl ?_
  refine x_iload_n (M := M_X12_byteAt) dX12_byteAt_6 rfl ?_
  refine x_i2l (M := M_X12_byteAt) dX12_byteAt_7 ?_
  refine x_lconst (M := M_X12_byteAt) dX12_byteAt_8 ?_
  refine x_aload_n (M := M_X12_byteAt) dX12_byteAt_9 rfl ?_
  refine x_getf (M := M_X12_byteAt) (ci := 15) (C := RX12) (T := TX12) (N := 135) (ty := tyX12) cl15 dX12_byteAt_10 w77 6 (by decide) t_2397 (v := .int (0 : Int32)) rfl ?_
  refine x_iconst (M := M_X12_byteAt) dX12_byteAt_13 ?_
  refine x_isub (M := M_X12_byteAt) dX12_byteAt_14 ?_
  refine x_i2l (M := M_X12_byteAt) dX12_byteAt_15 ?_
  refine x_norm (M := M_X12_byteAt) (st' := [.long (Int64.ofInt (-1)), .long (Int64.ofInt 0), .long (a0.toInt64), .ref 277]) rfl (vj_cons (by decide +kernel : (((0 : Int32) - (Int32.ofInt 1)).toInt64) = (Int64.ofInt (-1))) (vj_cons (by decide +kernel : (Int64.ofNat ((0 : Fin 2) : Nat)) = (Int64.ofInt 0)) rfl)) rfl rfl rfl ?_
  refine x_callSR (M := M_X12_byteAt) (M' := M_X12_in) rfl rfl dX12_byteAt_16 m_X12_in t_2818 t_2819 (q16 hl c0) rfl rfl (Nat.le_of_ble_eq_true rfl) (Nat.le_of_ble_eq_true rfl) (Nat.le_of_ble_eq_true rfl) (Nat.le_of_ble_eq_true rfl) ?_
  refine x_if_ne (M := M_X12_byteAt) (tgt := 26) dX12_byteAt_19 (by decide) (fun q => absurd q (by decide +kernel)) (fun _ => ?_)
  refine x_iconst (M := M_X12_byteAt) dX12_byteAt_22 ?_
  refine x_goto (M := M_X12_byteAt) (tgt := 27) dX12_byteAt_23 (by decide) ?_
  refine x_iconst (M := M_X12_byteAt) dX12_byteAt_27 ?_
  refine y_callVR (M := M_X12_byteAt) (M' := M_X12_fails) rfl rfl dX12_byteAt_28 m_X12_fails t_2805 t_2807 s_157 (q22 hl w77) rfl rfl w77 rfl (Nat.le_of_ble_eq_true rfl) (Nat.le_of_ble_eq_true rfl) (Nat.le_of_ble_eq_true rfl) (Nat.le_of_ble_eq_true rfl) (fun h79 f80 w81 => ?_)
  obtain ⟨o82, -⟩ := w81
  refine x_if_eq (M := M_X12_byteAt) (tgt := 36) dX12_byteAt_31 (by decide) (fun q => absurd q (by decide +kernel)) (fun _ => ?_)
  refine x_iconst (M := M_X12_byteAt) dX12_byteAt_34 ?_
  exact x_iret (M := M_X12_byteAt) dX12_byteAt_35 rfl ⟨rfl, (fr_tr f80 (by decide) (fr_tr f78 (by decide) fr_rf)), ⟨o82, trivial⟩⟩ (Nat.le_of_ble_eq_true rfl) (Nat.le_of_ble_eq_true rfl)
set_option maxRecDepth 10000 in
theorem lc8_0 {l : Launch} {E : EE} (hl : l.stackTraces = false) (nm : String) {xs : Nat → Int32} (hx : E.2.2.2.2 0 = some (7, xs)) {h : HP} {a0 : Int32} {dg : Int32} (e2 : xs 2 = a0) (c0 : a0.toInt < 0) (o71 : ob h 32 = some (.inr (14, [.ref 33, .ref 162, .ref 166, .int (0 : Int32), .int (0 : Int32), .int (0 : Int32), .ref 167, .ref 170, .ref 173, .ref 177, .ref 193, .ref 208, .ref 222, .ref 238, .ref 252, .ref 274, .ref 275, .ref 276, .int (0 : Int32)]))) (o84 : ob h 277 = some (.inr (15, (RB dg)))) : XX l E (M_law nm) 1312 342628 8074320 (fun o _ => o = .inl (some (.int 1))) 657 [some (.ref 0), some (.ref 32), some (.ref 277), some (.ref 359), some (.int (Int32.ofInt 1)), none, none, none] [] h 328 2463747 := by
  refine x_aload_n (M := (M_law nm)) dL_law_657 rfl ?_
  refine x_aload_n (M := (M_law nm)) dL_law_658 rfl ?_
  refine x_iload (M := (M_law nm)) dL_law_659 rfl ?_
  refine x_iconst (M := (M_law nm)) dL_law_661 ?_
  refine x_iadd (M := (M_law nm)) dL_law_662 ?_
  refine x_sald (M := (M_law nm)) dL_law_663 (by decide) hx (vp_inD (by decide +kernel)) ?_
  refine x_top (M := (M_law nm)) (y := a0) ((congrArg xs (by decide +kernel : ((Int32.ofInt 1) + (Int32.ofInt 1)).toNatClampNeg = 2)).trans e2) ?_
  refine x_aload_n (M := (M_law nm)) dL_law_664 rfl ?_
  refine y_callSW (M := (M_law nm)) (M' := M_L_byteAt) rfl rfl dL_law_665 m_L_byteAt t_1136 t_1137 (q70 hl c0 o71) rfl rfl (Nat.le_of_ble_eq_true rfl) (Nat.le_of_ble_eq_true rfl) (Nat.le_of_ble_eq_true rfl) (Nat.le_of_ble_eq_true rfl) (fun h72 f73 w74 => ?_)
  refine x_istore (M := (M_law nm)) dL_law_668 (Nat.le_of_ble_eq_true rfl) rfl ?_
  refine x_aload_n (M := (M_law nm)) dL_law_670 rfl ?_
  refine x_aload_n (M := (M_law nm)) dL_law_671 rfl ?_
  refine x_iload (M := (M_law nm)) dL_law_672 rfl ?_
  refine x_iconst (M := (M_law nm)) dL_law_674 ?_
  refine x_iadd (M := (M_law nm)) dL_law_675 ?_
  refine x_sald (M := (M_law nm)) dL_law_676 (by decide) hx (vp_inD (by decide +kernel)) ?_
  refine x_top (M := (M_law nm)) (y := a0) ((congrArg xs (by decide +kernel : ((Int32.ofInt 1) + (Int32.ofInt 1)).toNatClampNeg = 2)).trans e2) ?_
  have o85 := (f73 277 _ (by decide) o84)
  refine y_callVR (M := (M_law nm)) (M' := M_X12_byteAt) rfl rfl dL_law_677 m_X12_byteAt t_2829 t_2830 t_2831 (q83 hl c0 o85) rfl rfl o85 rfl (Nat.le_of_ble_eq_true rfl) (Nat.le_of_ble_eq_true rfl) (Nat.le_of_ble_eq_true rfl) (Nat.le_of_ble_eq_true rfl) (fun h86 f87 w88 => ?_)
  obtain ⟨o89, -⟩ := w88
  refine x_istore (M := (M_law nm)) dL_law_680 (Nat.le_of_ble_eq_true rfl) rfl ?_
  refine x_aload_n (M := (M_law nm)) dL_law_682 rfl ?_
  refine x_callVR (M := (M_law nm)) (M' := M_X12_thrown) rfl rfl dL_law_683 m_X12_thrown t_2797 t_2798 t_2799 (q35 hl o89) rfl rfl o89 rfl (Nat.le_of_ble_eq_true rfl) (Nat.le_of_ble_eq_true rfl) (Nat.le_of_ble_eq_true rfl) (Nat.le_of_ble_eq_true rfl) ?_
  refine x_iload (M := (M_law nm)) dL_law_686 rfl ?_
  refine x_icmp_eq (M := (M_law nm)) (tgt := 693) dL_law_688 (by decide) (fun _ => ?_) (fun q => absurd q (by decide +kernel))
  refine x_iload (M := (M_law nm)) dL_law_693 rfl ?_
  refine x_if_ne (M := (M_law nm)) (tgt := 710) dL_law_695 (by decide) (fun _ => ?_) (fun q => absurd q (by decide +kernel))
  refine x_goto (M := (M_law nm)) (tgt := 2449) dL_law_710 (by decide) ?_
  refine x_iinc (M := (M_law nm)) dL_law_2449 rfl (Nat.le_of_ble_eq_true rfl) rfl ?_
  refine x_lvs (M := (M_law nm)) (lv' := [some (.ref 0), some (.ref 32), some (.ref 277), some (.ref 359), some (.int (Int32.ofInt 7)), some (.int (Int32.ofInt 1)), some (.int (Int32.ofInt 0)), none]) (by rw [(by decide +kernel : (Int32.ofInt 1) + Int32.ofInt 6 = (Int32.ofInt 7))] <;> rfl) ?_
  refine x_goto (M := (M_law nm)) (tgt := 33) dL_law_2452 (by decide) ?_
  refine x_iload (M := (M_law nm)) dL_law_33 rfl ?_
  refine x_aload_n (M := (M_law nm)) dL_law_35 rfl ?_
  refine x_slen (M := (M_law nm)) dL_law_36 (by decide) hx ?_
  refine x_bipush (M := (M_law nm)) dL_law_37 ?_
  refine x_isub (M := (M_law nm)) dL_law_39 ?_
  refine x_icmp_gt (M := (M_law nm)) (tgt := 2455) dL_law_40 (by decide) (fun _ => ?_) (fun q => absurd q (by decide +kernel))
  refine x_iconst (M := (M_law nm)) dL_law_2455 ?_
  exact x_zret (M := (M_law nm)) dL_law_2456 rfl (by decide) rfl (Nat.le_of_ble_eq_true rfl) (Nat.le_of_ble_eq_true rfl)
set_option maxRecDepth 10000 in
theorem q93 {l : Launch} {E : EE} (hl : l.stackTraces = false) {h : HP} {a0 : Int32} {dg : Int32} (c0 : ¬ (a0.toInt < 0)) (o90 : ob h 32 = some (.inr (14, [.ref 33, .ref 162, .ref 166, .int (0 : Int32), .int (0 : Int32), .int (0 : Int32), .ref 167, .ref 170, .ref 173, .ref 177, .ref 193, .ref 208, .ref 222, .ref 238, .ref 252, .ref 274, .ref 275, .ref 276, .int (0 : Int32)]))) (o91 : ob h 173 = some (.inr (13, [.int (dg &&& Int32.ofInt 3), .ref 174, .ref 175, .int (0 : Int32), .ref 176, .int (0 : Int32)]))) : en_C l E M_X11_byteAt 6 1 6 [.ref 32, .int a0] h (pT "java/lang/IndexOutOfBoundsException" [] h (fun _ => True)) := by
  refine en_mk m_X11_byteAt rfl hl (Nat.le_of_ble_eq_true rfl) ?_
  refine x_iload_n (M := M_X11_byteAt) dX11_byteAt_0 rfl ?_
  refine x_if_lt (M := M_X11_byteAt) (tgt := 15) dX11_byteAt_1 (by decide) (fun q => absurd ((bi_lt rfl (by decide +kernel)).mp q) (by omega : ¬ (a0.toInt < 0))) (fun _ => ?_)
  refine x_iload_n (M := M_X11_byteAt) dX11_byteAt_4 rfl ?_
  refine x_aload_n (M := M_X11_byteAt) dX11_byteAt_5 rfl ?_
  refine x_getf (M := M_X11_byteAt) (ci := 14) (C := RX11) (T := TX11) (N := 19) (ty := tyX11) cl14 dX11_byteAt_6 o90 8 (by decide) t_571 (v := .ref 173) rfl ?_
  refine x_getf (M := M_X11_byteAt) (ci := 13) (C := RX10) (T := TX10) (N := 6) (ty := tyX10) cl13 dX11_byteAt_9 o91 5 (by decide) t_208 (v := .int (0 : Int32)) rfl ?_
  refine x_icmp_lt (M := M_X11_byteAt) (tgt := 23) dX11_byteAt_12 (by decide) (fun q => absurd ((bi_lt rfl (by decide +kernel)).mp q) (by omega : ¬ (a0.toInt < 0))) (fun _ => ?_)
  exact x_throw (M := M_X11_byteAt) (names := en_nm) rfl dX11_byteAt_15 dX11_byteAt_18 dX11_byteAt_19 dX11_byteAt_22 (by decide +kernel) en_nm_ok (Or.inl t_748) (Or.inl t_22) (at_X11_IndexOutOfBoundsException_139) (Nat.le_of_ble_eq_true rfl) (Nat.le_of_ble_eq_true rfl) (Nat.le_of_ble_eq_true rfl) (Nat.le_of_ble_eq_true rfl) (fun n9 => ⟨rfl, (fr_tr (fr_app (List.replicate n9 none)) (fun _ h => nomatch h) fr_rf), trivial⟩)
set_option maxRecDepth 10000 in
theorem q99 {l : Launch} {E : EE} (hl : l.stackTraces = false) {h : HP} {a0 : Int32} {dg : Int32} (c0 : ¬ (a0.toInt < 0)) (o94 : ob h 32 = some (.inr (14, [.ref 33, .ref 162, .ref 166, .int (0 : Int32), .int (0 : Int32), .int (0 : Int32), .ref 167, .ref 170, .ref 173, .ref 177, .ref 193, .ref 208, .ref 222, .ref 238, .ref 252, .ref 274, .ref 275, .ref 276, .int (0 : Int32)]))) (o95 : ob h 173 = some (.inr (13, [.int (dg &&& Int32.ofInt 3), .ref 174, .ref 175, .int (0 : Int32), .ref 176, .int (0 : Int32)]))) : en_C l E M_L_byteAt 7 1 6 [.ref 32, .int a0, .ref 359] h (pF (some (.int (Int32.ofInt 1))) [] h (fun _ => True)) := by
  refine en_mkW m_L_byteAt rfl hl (Nat.le_of_ble_eq_true rfl) ?_
  refine x_aload_n (M := M_L_byteAt) dL_byteAt_0 rfl ?_
  refine x_iconst (M := M_L_byteAt) dL_byteAt_1 ?_
  refine x_aload_n (M := M_L_byteAt) dL_byteAt_2 rfl ?_
  refine x_iload_n (M := M_L_byteAt) dL_byteAt_3 rfl ?_
  refine y_callVHX (M := M_L_byteAt) (M' := M_X11_byteAt) (i9 := 3) (nx := 13) rfl dL_byteAt_4 m_X11_byteAt t_1139 t_1140 t_1141 o94 rfl (q93 hl c0 o94 o95) rfl rfl (Nat.le_of_ble_eq_true rfl) (Nat.le_of_ble_eq_true rfl) (Nat.le_of_ble_eq_true rfl) (Nat.le_of_ble_eq_true rfl) (en_hdn (k0 := 3) [] [] rfl (fun _ h => nomatch h) (by decide +kernel) (by decide) t_739 n_750 dL_byteAt_12) (by decide) rfl (fun h96 f97 w98 => ?_)
  refine x_iconst (M := M_L_byteAt) dL_byteAt_13 ?_
  exact x_iret (M := M_L_byteAt) dL_byteAt_14 rfl ⟨rfl, (fr_tr f97 (fun _ h => nomatch h) fr_rf), trivial⟩ (Nat.le_of_ble_eq_true rfl) (Nat.le_of_ble_eq_true rfl)
set_option maxRecDepth 10000 in
theorem q113 {l : Launch} {E : EE} (hl : l.stackTraces = false) {h : HP} {a0 : Int32} {dg : Int32} (c0 : ¬ (a0.toInt < 0)) (o105 : ob h 277 = some (.inr (15, (RB dg)))) : en_C l E M_X12_byteAt 1 0 0 [.ref 277, .int a0] h (pF (some (.int (Int32.ofInt 0))) [277] h (fun h' => ob h' 277 = some (.inr (15, ((RB dg).set 0 (.int (Int32.ofInt 1))))) ∧ True)) := by
  refine en_mk m_X12_byteAt rfl hl (Nat.le_of_ble_eq_true rfl) ?_
  refine x_aload_n (M := M_X12_byteAt) dX12_byteAt_0 rfl ?_
  refine x_iconst (M := M_X12_byteAt) dX12_byteAt_1 ?_
  refine y_put (M := M_X12_byteAt) (ci := 15) (C := RX12) (T := TX12) (N := 135) (ty := tyX12) cl15 dX12_byteAt_2 o105 0 (by decide) t_2391 (Or.inl rfl) (Nat.le_of_ble_eq_true rfl) rfl (fun h106 w107 f108 => ?_)
  refine x_aload_n (M := M_X12_byteAt) dX12_byteAt_5 rfl ?_
  refine x_iload_n (M := M_X12_byteAt) dX12_byteAt_6 rfl ?_
  refine x_i2l (M := M_X12_byteAt) dX12_byteAt_7 ?_
  refine x_lconst (M := M_X12_byteAt) dX12_byteAt_8 ?_
  refine x_aload_n (M := M_X12_byteAt) dX12_byteAt_9 rfl ?_
  refine x_getf (M := M_X12_byteAt) (ci := 15) (C := RX12) (T := TX12) (N := 135) (ty := tyX12) cl15 dX12_byteAt_10 w107 6 (by decide) t_2397 (v := .int (0 : Int32)) rfl ?_
  refine x_iconst (M := M_X12_byteAt) dX12_byteAt_13 ?_
  refine x_isub (M := M_X12_byteAt) dX12_byteAt_14 ?_
  refine x_i2l (M := M_X12_byteAt) dX12_byteAt_15 ?_
  refine x_norm (M := M_X12_byteAt) (st' := [.long (Int64.ofInt (-1)), .long (Int64.ofInt 0), .long (a0.toInt64), .ref 277]) rfl (vj_cons (by decide +kernel : (((0 : Int32) - (Int32.ofInt 1)).toInt64) = (Int64.ofInt (-1))) (vj_cons (by decide +kernel : (Int64.ofNat ((0 : Fin 2) : Nat)) = (Int64.ofInt 0)) rfl)) rfl rfl rfl ?_
  refine x_callSR (M := M_X12_byteAt) (M' := M_X12_in) rfl rfl dX12_byteAt_16 m_X12_in t_2818 t_2819 (q52 hl c0) rfl rfl (Nat.le_of_ble_eq_true rfl) (Nat.le_of_ble_eq_true rfl) (Nat.le_of_ble_eq_true rfl) (Nat.le_of_ble_eq_true rfl) ?_
  refine x_if_ne (M := M_X12_byteAt) (tgt := 26) dX12_byteAt_19 (by decide) (fun q => absurd q (by decide +kernel)) (fun _ => ?_)
  refine x_iconst (M := M_X12_byteAt) dX12_byteAt_22 ?_
  refine x_goto (M := M_X12_byteAt) (tgt := 27) dX12_byteAt_23 (by decide) ?_
  refine x_iconst (M := M_X12_byteAt) dX12_byteAt_27 ?_
  refine y_callVR (M := M_X12_byteAt) (M' := M_X12_fails) rfl rfl dX12_byteAt_28 m_X12_fails t_2805 t_2807 s_157 (q22 hl w107) rfl rfl w107 rfl (Nat.le_of_ble_eq_true rfl) (Nat.le_of_ble_eq_true rfl) (Nat.le_of_ble_eq_true rfl) (Nat.le_of_ble_eq_true rfl) (fun h109 f110 w111 => ?_)
  obtain ⟨o112, -⟩ := w111
  refine x_if_eq (M := M_X12_byteAt) (tgt := 36) dX12_byteAt_31 (by decide) (fun q => absurd q (by decide +kernel)) (fun _ => ?_)
  refine x_iconst (M := M_X12_byteAt) dX12_byteAt_34 ?_
  exact x_iret (M := M_X12_byteAt) dX12_byteAt_35 rfl ⟨rfl, (fr_tr f110 (by decide) (fr_tr f108 (by decide) fr_rf)), ⟨o112, trivial⟩⟩ (Nat.le_of_ble_eq_true rfl) (Nat.le_of_ble_eq_true rfl)
set_option maxRecDepth 10000 in
theorem lc8_1 {l : Launch} {E : EE} (hl : l.stackTraces = false) (nm : String) {xs : Nat → Int32} (hx : E.2.2.2.2 0 = some (7, xs)) {h : HP} {a0 : Int32} {dg : Int32} (e2 : xs 2 = a0) (c0 : ¬ (a0.toInt < 0)) (o100 : ob h 32 = some (.inr (14, [.ref 33, .ref 162, .ref 166, .int (0 : Int32), .int (0 : Int32), .int (0 : Int32), .ref 167, .ref 170, .ref 173, .ref 177, .ref 193, .ref 208, .ref 222, .ref 238, .ref 252, .ref 274, .ref 275, .ref 276, .int (0 : Int32)]))) (o101 : ob h 173 = some (.inr (13, [.int (dg &&& Int32.ofInt 3), .ref 174, .ref 175, .int (0 : Int32), .ref 176, .int (0 : Int32)]))) (o114 : ob h 277 = some (.inr (15, (RB dg)))) : XX l E (M_law nm) 1312 342628 8074320 (fun o _ => o = .inl (some (.int 1))) 657 [some (.ref 0), some (.ref 32), some (.ref 277), some (.ref 359), some (.int (Int32.ofInt 1)), none, none, none] [] h 328 2463747 := by
  refine x_aload_n (M := (M_law nm)) dL_law_657 rfl ?_
  refine x_aload_n (M := (M_law nm)) dL_law_658 rfl ?_
  refine x_iload (M := (M_law nm)) dL_law_659 rfl ?_
  refine x_iconst (M := (M_law nm)) dL_law_661 ?_
  refine x_iadd (M := (M_law nm)) dL_law_662 ?_
  refine x_sald (M := (M_law nm)) dL_law_663 (by decide) hx (vp_inD (by decide +kernel)) ?_
  refine x_top (M := (M_law nm)) (y := a0) ((congrArg xs (by decide +kernel : ((Int32.ofInt 1) + (Int32.ofInt 1)).toNatClampNeg = 2)).trans e2) ?_
  refine x_aload_n (M := (M_law nm)) dL_law_664 rfl ?_
  refine y_callSW (M := (M_law nm)) (M' := M_L_byteAt) rfl rfl dL_law_665 m_L_byteAt t_1136 t_1137 (q99 hl c0 o100 o101) rfl rfl (Nat.le_of_ble_eq_true rfl) (Nat.le_of_ble_eq_true rfl) (Nat.le_of_ble_eq_true rfl) (Nat.le_of_ble_eq_true rfl) (fun h102 f103 w104 => ?_)
  refine x_istore (M := (M_law nm)) dL_law_668 (Nat.le_of_ble_eq_true rfl) rfl ?_
  refine x_aload_n (M := (M_law nm)) dL_law_670 rfl ?_
  refine x_aload_n (M := (M_law nm)) dL_law_671 rfl ?_
  refine x_iload (M := (M_law nm)) dL_law_672 rfl ?_
  refine x_iconst (M := (M_law nm)) dL_law_674 ?_
  refine x_iadd (M := (M_law nm)) dL_law_675 ?_
  refine x_sald (M := (M_law nm)) dL_law_676 (by decide) hx (vp_inD (by decide +kernel)) ?_
  refine x_top (M := (M_law nm)) (y := a0) ((congrArg xs (by decide +kernel : ((Int32.ofInt 1) + (Int32.ofInt 1)).toNatClampNeg = 2)).trans e2) ?_
  have o115 := (f103 277 _ (by decide) o114)
  refine y_callVR (M := (M_law nm)) (M' := M_X12_byteAt) rfl rfl dL_law_677 m_X12_byteAt t_2829 t_2830 t_2831 (q113 hl c0 o115) rfl rfl o115 rfl (Nat.le_of_ble_eq_true rfl) (Nat.le_of_ble_eq_true rfl) (Nat.le_of_ble_eq_true rfl) (Nat.le_of_ble_eq_true rfl) (fun h116 f117 w118 => ?_)
  obtain ⟨o119, -⟩ := w118
  refine x_istore (M := (M_law nm)) dL_law_680 (Nat.le_of_ble_eq_true rfl) rfl ?_
  refine x_aload_n (M := (M_law nm)) dL_law_682 rfl ?_
  refine x_callVR (M := (M_law nm)) (M' := M_X12_thrown) rfl rfl dL_law_683 m_X12_thrown t_2797 t_2798 t_2799 (q35 hl o119) rfl rfl o119 rfl (Nat.le_of_ble_eq_true rfl) (Nat.le_of_ble_eq_true rfl) (Nat.le_of_ble_eq_true rfl) (Nat.le_of_ble_eq_true rfl) ?_
  refine x_iload (M := (M_law nm)) dL_law_686 rfl ?_
  refine x_icmp_eq (M := (M_law nm)) (tgt := 693) dL_law_688 (by decide) (fun _ => ?_) (fun q => absurd q (by decide +kernel))
  refine x_iload (M := (M_law nm)) dL_law_693 rfl ?_
  refine x_if_ne (M := (M_law nm)) (tgt := 710) dL_law_695 (by decide) (fun _ => ?_) (fun q => absurd q (by decide +kernel))
  refine x_goto (M := (M_law nm)) (tgt := 2449) dL_law_710 (by decide) ?_
  refine x_iinc (M := (M_law nm)) dL_law_2449 rfl (Nat.le_of_ble_eq_true rfl) rfl ?_
  refine x_lvs (M := (M_law nm)) (lv' := [some (.ref 0), some (.ref 32), some (.ref 277), some (.ref 359), some (.int (Int32.ofInt 7)), some (.int (Int32.ofInt 1)), some (.int (Int32.ofInt 0)), none]) (by rw [(by decide +kernel : (Int32.ofInt 1) + Int32.ofInt 6 = (Int32.ofInt 7))] <;> rfl) ?_
  refine x_goto (M := (M_law nm)) (tgt := 33) dL_law_2452 (by decide) ?_
  refine x_iload (M := (M_law nm)) dL_law_33 rfl ?_
  refine x_aload_n (M := (M_law nm)) dL_law_35 rfl ?_
  refine x_slen (M := (M_law nm)) dL_law_36 (by decide) hx ?_
  refine x_bipush (M := (M_law nm)) dL_law_37 ?_
  refine x_isub (M := (M_law nm)) dL_law_39 ?_
  refine x_icmp_gt (M := (M_law nm)) (tgt := 2455) dL_law_40 (by decide) (fun _ => ?_) (fun q => absurd q (by decide +kernel))
  refine x_iconst (M := (M_law nm)) dL_law_2455 ?_
  exact x_zret (M := (M_law nm)) dL_law_2456 rfl (by decide) rfl (Nat.le_of_ble_eq_true rfl) (Nat.le_of_ble_eq_true rfl)
theorem lop8 {l : Launch} {E : EE} (hl : l.stackTraces = false) (nm : String) {xs : Nat → Int32} (hx : E.2.2.2.2 0 = some (7, xs)) (dg : Int32) : XX l E (M_law nm) 1312 342628 8074320 (fun o _ => o = .inl (some (.int 1))) 657 [some (.ref 0), some (.ref 32), some (.ref 277), some (.ref 359), some (.int (Int32.ofInt 1)), none, none, none] [] (HH dg) 328 2463747 := by
  obtain ⟨a0, e2⟩ : ∃ a : Int32, xs 2 = a := ⟨_, rfl⟩
  obtain ⟨a1, e3⟩ : ∃ a : Int32, xs 3 = a := ⟨_, rfl⟩
  obtain ⟨a2, e4⟩ : ∃ a : Int32, xs 4 = a := ⟨_, rfl⟩
  obtain ⟨a3, e5⟩ : ∃ a : Int32, xs 5 = a := ⟨_, rfl⟩
  obtain ⟨a4, e6⟩ : ∃ a : Int32, xs 6 = a := ⟨_, rfl⟩
  by_cases c0 : a0.toInt < 0
  · exact lc8_0 hl nm hx e2 c0 (o_32 dg) (o_277b dg)
  · exact lc8_1 hl nm hx e2 c0 (o_32 dg) (o_173 dg) (o_277b dg)
set_option maxRecDepth 10000 in
theorem q136 {l : Launch} {E : EE} (hl : l.stackTraces = false) {h : HP} {dg : Int32} (o120 : ob h 32 = some (.inr (14, [.ref 33, .ref 162, .ref 166, .int (0 : Int32), .int (0 : Int32), .int (0 : Int32), .ref 167, .ref 170, .ref 173, .ref 177, .ref 193, .ref 208, .ref 222, .ref 238, .ref 252, .ref 274, .ref 275, .ref 276, .int (0 : Int32)]))) (o121 : ob h 173 = some (.inr (13, [.int (dg &&& Int32.ofInt 3), .ref 174, .ref 175, .int (0 : Int32), .ref 176, .int (0 : Int32)]))) (o126 : ob h 176 = some (.inl (2, 80000, .inl (fun _ => 0)))) (o128 : ob h 166 = some (.inl (2, 65536, .inl (fun _ => 0)))) : en_C l E M_X11_again 1 0 0 [.ref 32] h (pF (some (.int (Int32.ofInt 0))) [32, 166] h (fun _ => True)) := by
  refine en_mk m_X11_again rfl hl (Nat.le_of_ble_eq_true rfl) ?_
  refine x_aload_n (M := M_X11_again) dX11_again_0 rfl ?_
  refine x_aload_n (M := M_X11_again) dX11_again_1 rfl ?_
  refine x_getf (M := M_X11_again) (ci := 14) (C := RX11) (T := TX11) (N := 19) (ty := tyX11) cl14 dX11_again_2 o120 8 (by decide) t_571 (v := .ref 173) rfl ?_
  refine x_getf (M := M_X11_again) (ci := 13) (C := RX10) (T := TX10) (N := 6) (ty := tyX10) cl13 dX11_again_5 o121 5 (by decide) t_208 (v := .int (0 : Int32)) rfl ?_
  refine x_ldc (M := M_X11_again) dX11_again_8 t_98 ?_
  refine x_mmin (M := M_X11_again) dX11_again_10 t_625 t_626 t_20 t_627 (Nat.le_of_ble_eq_true rfl) (Nat.le_of_ble_eq_true rfl) (Nat.le_of_ble_eq_true rfl) (Nat.le_of_ble_eq_true rfl) ?_
  refine x_top (M := M_X11_again) (y := (Int32.ofInt 0)) (by decide +kernel) ?_
  refine y_put (M := M_X11_again) (ci := 14) (C := RX11) (T := TX11) (N := 19) (ty := tyX11) cl14 dX11_again_13 o120 3 (by decide) t_566 (Or.inl rfl) (Nat.le_of_ble_eq_true rfl) rfl (fun h122 (w123 : ob h122 32 = some (.inr (14, [.ref 33, .ref 162, .ref 166, .int (Int32.ofInt 0), .int (0 : Int32), .int (0 : Int32), .ref 167, .ref 170, .ref 173, .ref 177, .ref 193, .ref 208, .ref 222, .ref 238, .ref 252, .ref 274, .ref 275, .ref 276, .int (0 : Int32)]))) f124 => ?_)
  refine x_aload_n (M := M_X11_again) dX11_again_16 rfl ?_
  refine x_getf (M := M_X11_again) (ci := 14) (C := RX11) (T := TX11) (N := 19) (ty := tyX11) cl14 dX11_again_17 w123 8 (by decide) t_571 (v := .ref 173) rfl ?_
  have o125 := (f124 173 _ (by decide) o121)
  refine x_getf (M := M_X11_again) (ci := 13) (C := RX10) (T := TX10) (N := 6) (ty := tyX10) cl13 dX11_again_20 o125 4 (by decide) t_206 (v := .ref 176) rfl ?_
  refine x_iconst (M := M_X11_again) dX11_again_23 ?_
  refine x_aload_n (M := M_X11_again) dX11_again_24 rfl ?_
  refine x_getf (M := M_X11_again) (ci := 14) (C := RX11) (T := TX11) (N := 19) (ty := tyX11) cl14 dX11_again_25 w123 2 (by decide) t_565 (v := .ref 166) rfl ?_
  refine x_iconst (M := M_X11_again) dX11_again_28 ?_
  refine x_aload_n (M := M_X11_again) dX11_again_29 rfl ?_
  refine x_getf (M := M_X11_again) (ci := 14) (C := RX11) (T := TX11) (N := 19) (ty := tyX11) cl14 dX11_again_30 w123 3 (by decide) t_566 (v := .int (Int32.ofInt 0)) rfl ?_
  have o127 := (f124 176 _ (by decide) o126)
  have o129 := (f124 166 _ (by decide) o128)
  refine y_acopy0 (M := M_X11_again) rfl dX11_again_33 t_628 t_630 t_629 t_21 o127 o129 (by decide +kernel) (by decide +kernel) (by decide +kernel) (Nat.le_of_ble_eq_true rfl) (Nat.le_of_ble_eq_true rfl) (fun h130 w131 f132 => ?_)
  obtain ⟨g133, w134⟩ := w131
  refine x_aload_n (M := M_X11_again) dX11_again_36 rfl ?_
  have o135 := (f132 32 _ (by decide) w123)
  refine x_getf (M := M_X11_again) (ci := 14) (C := RX11) (T := TX11) (N := 19) (ty := tyX11) cl14 dX11_again_37 o135 3 (by decide) t_566 (v := .int (Int32.ofInt 0)) rfl ?_
  exact x_iret (M := M_X11_again) dX11_again_40 rfl ⟨rfl, (fr_tr f132 (by decide) (fr_tr f124 (by decide) fr_rf)), trivial⟩ (Nat.le_of_ble_eq_true rfl) (Nat.le_of_ble_eq_true rfl)
set_option maxRecDepth 10000 in
theorem q151 {l : Launch} {E : EE} (hl : l.stackTraces = false) {h : HP} {dg : Int32} (o144 : ob h 277 = some (.inr (15, (RB dg)))) : en_C l E M_X12_again 0 0 0 [.ref 277] h (pF (some (.int (Int32.ofInt 0))) [277] h (fun h' => ob h' 277 = some (.inr (15, (((RB dg).set 0 (.int (Int32.ofInt 0))).set 4 (.int (Int32.ofInt 0))))) ∧ True)) := by
  refine en_mk m_X12_again rfl hl (Nat.le_of_ble_eq_true rfl) ?_
  refine x_aload_n (M := M_X12_again) dX12_again_0 rfl ?_
  refine x_iconst (M := M_X12_again) dX12_again_1 ?_
  refine y_put (M := M_X12_again) (ci := 15) (C := RX12) (T := TX12) (N := 135) (ty := tyX12) cl15 dX12_again_2 o144 0 (by decide) t_2391 (Or.inl rfl) (Nat.le_of_ble_eq_true rfl) rfl (fun h145 w146 f147 => ?_)
  refine x_aload_n (M := M_X12_again) dX12_again_5 rfl ?_
  refine x_aload_n (M := M_X12_again) dX12_again_6 rfl ?_
  refine x_getf (M := M_X12_again) (ci := 15) (C := RX12) (T := TX12) (N := 135) (ty := tyX12) cl15 dX12_again_7 w146 6 (by decide) t_2397 (v := .int (0 : Int32)) rfl ?_
  refine x_ldc (M := M_X12_again) dX12_again_10 t_2385 ?_
  refine x_icmp_ge (M := M_X12_again) (tgt := 22) dX12_again_12 (by decide) (fun q => absurd q (by decide +kernel)) (fun _ => ?_)
  refine x_aload_n (M := M_X12_again) dX12_again_15 rfl ?_
  refine x_getf (M := M_X12_again) (ci := 15) (C := RX12) (T := TX12) (N := 135) (ty := tyX12) cl15 dX12_again_16 w146 6 (by decide) t_2397 (v := .int (0 : Int32)) rfl ?_
  refine x_goto (M := M_X12_again) (tgt := 24) dX12_again_19 (by decide) ?_
  refine x_top (M := M_X12_again) (y := (Int32.ofInt 0)) (by decide +kernel) ?_
  refine y_put (M := M_X12_again) (ci := 15) (C := RX12) (T := TX12) (N := 135) (ty := tyX12) cl15 dX12_again_24 w146 4 (by decide) t_2395 (Or.inl rfl) (Nat.le_of_ble_eq_true rfl) rfl (fun h148 w149 f150 => ?_)
  refine x_iconst (M := M_X12_again) dX12_again_27 ?_
  refine x_istore_n (M := M_X12_again) dX12_again_28 (Nat.le_of_ble_eq_true rfl) rfl ?_
  refine x_iload_n (M := M_X12_again) dX12_again_29 rfl ?_
  refine x_aload_n (M := M_X12_again) dX12_again_30 rfl ?_
  refine x_getf (M := M_X12_again) (ci := 15) (C := RX12) (T := TX12) (N := 135) (ty := tyX12) cl15 dX12_again_31 w149 4 (by decide) t_2395 (v := .int (Int32.ofInt 0)) rfl ?_
  refine x_icmp_ge (M := M_X12_again) (tgt := 55) dX12_again_34 (by decide) (fun _ => ?_) (fun q => absurd q (by decide +kernel))
  refine x_aload_n (M := M_X12_again) dX12_again_55 rfl ?_
  refine x_getf (M := M_X12_again) (ci := 15) (C := RX12) (T := TX12) (N := 135) (ty := tyX12) cl15 dX12_again_56 w149 4 (by decide) t_2395 (v := .int (Int32.ofInt 0)) rfl ?_
  exact x_iret (M := M_X12_again) dX12_again_59 rfl ⟨rfl, (fr_tr f150 (by decide) (fr_tr f147 (by decide) fr_rf)), ⟨w149, trivial⟩⟩ (Nat.le_of_ble_eq_true rfl) (Nat.le_of_ble_eq_true rfl)
set_option maxRecDepth 10000 in
theorem lc2_0 {l : Launch} {E : EE} (hl : l.stackTraces = false) (nm : String) {xs : Nat → Int32} (hx : E.2.2.2.2 0 = some (7, xs)) {h : HP} {dg : Int32} (o137 : ob h 32 = some (.inr (14, [.ref 33, .ref 162, .ref 166, .int (0 : Int32), .int (0 : Int32), .int (0 : Int32), .ref 167, .ref 170, .ref 173, .ref 177, .ref 193, .ref 208, .ref 222, .ref 238, .ref 252, .ref 274, .ref 275, .ref 276, .int (0 : Int32)]))) (o138 : ob h 173 = some (.inr (13, [.int (dg &&& Int32.ofInt 3), .ref 174, .ref 175, .int (0 : Int32), .ref 176, .int (0 : Int32)]))) (o139 : ob h 176 = some (.inl (2, 80000, .inl (fun _ => 0)))) (o140 : ob h 166 = some (.inl (2, 65536, .inl (fun _ => 0)))) (o152 : ob h 277 = some (.inr (15, (RB dg)))) : XX l E (M_law nm) 1312 342628 8074320 (fun o _ => o = .inl (some (.int 1))) 352 [some (.ref 0), some (.ref 32), some (.ref 277), some (.ref 359), some (.int (Int32.ofInt 1)), none, none, none] [] h 328 2463747 := by
  refine x_aload_n (M := (M_law nm)) dL_law_352 rfl ?_
  refine y_callVR (M := (M_law nm)) (M' := M_X11_again) rfl rfl dL_law_353 m_X11_again t_621 t_622 t_623 (q136 hl o137 o138 o139 o140) rfl rfl o137 rfl (Nat.le_of_ble_eq_true rfl) (Nat.le_of_ble_eq_true rfl) (Nat.le_of_ble_eq_true rfl) (Nat.le_of_ble_eq_true rfl) (fun h141 f142 w143 => ?_)
  refine x_aload_n (M := (M_law nm)) dL_law_356 rfl ?_
  have o153 := (f142 277 _ (by decide) o152)
  refine y_callVR (M := (M_law nm)) (M' := M_X12_again) rfl rfl dL_law_357 m_X12_again t_2821 t_2822 t_2823 (q151 hl o153) rfl rfl o153 rfl (Nat.le_of_ble_eq_true rfl) (Nat.le_of_ble_eq_true rfl) (Nat.le_of_ble_eq_true rfl) (Nat.le_of_ble_eq_true rfl) (fun h154 f155 w156 => ?_)
  obtain ⟨o157, -⟩ := w156
  refine x_icmp_eq (M := (M_law nm)) (tgt := 2449) dL_law_360 (by decide) (fun _ => ?_) (fun q => absurd q (by decide +kernel))
  refine x_iinc (M := (M_law nm)) dL_law_2449 rfl (Nat.le_of_ble_eq_true rfl) rfl ?_
  refine x_lvs (M := (M_law nm)) (lv' := [some (.ref 0), some (.ref 32), some (.ref 277), some (.ref 359), some (.int (Int32.ofInt 7)), none, none, none]) (by rw [(by decide +kernel : (Int32.ofInt 1) + Int32.ofInt 6 = (Int32.ofInt 7))] <;> rfl) ?_
  refine x_goto (M := (M_law nm)) (tgt := 33) dL_law_2452 (by decide) ?_
  refine x_iload (M := (M_law nm)) dL_law_33 rfl ?_
  refine x_aload_n (M := (M_law nm)) dL_law_35 rfl ?_
  refine x_slen (M := (M_law nm)) dL_law_36 (by decide) hx ?_
  refine x_bipush (M := (M_law nm)) dL_law_37 ?_
  refine x_isub (M := (M_law nm)) dL_law_39 ?_
  refine x_icmp_gt (M := (M_law nm)) (tgt := 2455) dL_law_40 (by decide) (fun _ => ?_) (fun q => absurd q (by decide +kernel))
  refine x_iconst (M := (M_law nm)) dL_law_2455 ?_
  exact x_zret (M := (M_law nm)) dL_law_2456 rfl (by decide) rfl (Nat.le_of_ble_eq_true rfl) (Nat.le_of_ble_eq_true rfl)
theorem lop2 {l : Launch} {E : EE} (hl : l.stackTraces = false) (nm : String) {xs : Nat → Int32} (hx : E.2.2.2.2 0 = some (7, xs)) (dg : Int32) : XX l E (M_law nm) 1312 342628 8074320 (fun o _ => o = .inl (some (.int 1))) 352 [some (.ref 0), some (.ref 32), some (.ref 277), some (.ref 359), some (.int (Int32.ofInt 1)), none, none, none] [] (HH dg) 328 2463747 := by
  obtain ⟨a0, e2⟩ : ∃ a : Int32, xs 2 = a := ⟨_, rfl⟩
  obtain ⟨a1, e3⟩ : ∃ a : Int32, xs 3 = a := ⟨_, rfl⟩
  obtain ⟨a2, e4⟩ : ∃ a : Int32, xs 4 = a := ⟨_, rfl⟩
  obtain ⟨a3, e5⟩ : ∃ a : Int32, xs 5 = a := ⟨_, rfl⟩
  obtain ⟨a4, e6⟩ : ∃ a : Int32, xs 6 = a := ⟨_, rfl⟩
  exact lc2_0 hl nm hx  (o_32 dg) (o_173 dg) (o_176 dg) (o_166 dg) (o_277b dg)
set_option maxRecDepth 10000 in
theorem q159 {l : Launch} {E : EE} (hl : l.stackTraces = false) {h : HP} {a0 : Int32} (c0 : a0.toInt < 0) : en_C l E M_X11_fault 6 1 6 [.ref 32, .int a0] h (pT "java/lang/IndexOutOfBoundsException" [] h (fun _ => True)) := by
  refine en_mk m_X11_fault rfl hl (Nat.le_of_ble_eq_true rfl) ?_
  refine x_iload_n (M := M_X11_fault) dX11_fault_0 rfl ?_
  refine x_if_lt (M := M_X11_fault) (tgt := 9) dX11_fault_1 (by decide) (fun _ => ?_) (fun q => absurd ((bi_lt rfl (by decide +kernel)).mpr (by omega : (a0.toInt < 0 : Prop))) q)
  exact x_throw (M := M_X11_fault) (names := en_nm) rfl dX11_fault_9 dX11_fault_12 dX11_fault_13 dX11_fault_16 (by decide +kernel) en_nm_ok (Or.inl t_748) (Or.inl t_22) (at_X11_IndexOutOfBoundsException_139) (Nat.le_of_ble_eq_true rfl) (Nat.le_of_ble_eq_true rfl) (Nat.le_of_ble_eq_true rfl) (Nat.le_of_ble_eq_true rfl) (fun n9 => ⟨rfl, (fr_tr (fr_app (List.replicate n9 none)) (fun _ h => nomatch h) fr_rf), trivial⟩)
set_option maxRecDepth 10000 in
theorem q164 {l : Launch} {E : EE} (hl : l.stackTraces = false) {h : HP} {a0 : Int32} (c0 : a0.toInt < 0) (o160 : ob h 32 = some (.inr (14, [.ref 33, .ref 162, .ref 166, .int (0 : Int32), .int (0 : Int32), .int (0 : Int32), .ref 167, .ref 170, .ref 173, .ref 177, .ref 193, .ref 208, .ref 222, .ref 238, .ref 252, .ref 274, .ref 275, .ref 276, .int (0 : Int32)]))) : en_C l E M_L_fault 7 1 6 [.ref 32, .int a0, .ref 359] h (pF (some (.int (Int32.ofInt 1))) [] h (fun _ => True)) := by
  refine en_mkW m_L_fault rfl hl (Nat.le_of_ble_eq_true rfl) ?_
  refine x_aload_n (M := M_L_fault) dL_fault_0 rfl ?_
  refine x_iconst (M := M_L_fault) dL_fault_1 ?_
  refine x_aload_n (M := M_L_fault) dL_fault_2 rfl ?_
  refine x_iload_n (M := M_L_fault) dL_fault_3 rfl ?_
  refine y_callVHX (M := M_L_fault) (M' := M_X11_fault) (i9 := 3) (nx := 13) rfl dL_fault_4 m_X11_fault t_1036 t_1037 t_1038 o160 rfl (q159 hl c0) rfl rfl (Nat.le_of_ble_eq_true rfl) (Nat.le_of_ble_eq_true rfl) (Nat.le_of_ble_eq_true rfl) (Nat.le_of_ble_eq_true rfl) (en_hdn (k0 := 3) [] [] rfl (fun _ h => nomatch h) (by decide +kernel) (by decide) t_739 n_750 dL_fault_12) (by decide) rfl (fun h161 f162 w163 => ?_)
  refine x_iconst (M := M_L_fault) dL_fault_13 ?_
  exact x_iret (M := M_L_fault) dL_fault_14 rfl ⟨rfl, (fr_tr f162 (fun _ h => nomatch h) fr_rf), trivial⟩ (Nat.le_of_ble_eq_true rfl) (Nat.le_of_ble_eq_true rfl)
set_option maxRecDepth 10000 in
theorem q173 {l : Launch} {E : EE} (hl : l.stackTraces = false) {h : HP} {a0 : Int32} (c0 : a0.toInt < 0) : en_C l E M_X12_in 0 0 0 [.long (a0.toInt64), .long (Int64.ofInt 0), .long (Int64.ofInt 1)] h (pR (some (.int (Int32.ofInt 0))) h) := by
  refine en_mk m_X12_in rfl hl (Nat.le_of_ble_eq_true rfl) ?_
  refine x_lload_n (M := M_X12_in) dX12_in_0 rfl ?_
  refine x_lload_n (M := M_X12_in) dX12_in_1 rfl ?_
  refine x_lcmp (M := M_X12_in) dX12_in_2 ?_
  refine x_if_lt (M := M_X12_in) (tgt := 17) dX12_in_3 (by decide) (fun _ => ?_) (fun q => absurd ((bc_lt (i_i2l rfl) (by decide +kernel)).mpr (by omega : (a0.toInt < 0 : Prop))) q)
  refine x_iconst (M := M_X12_in) dX12_in_17 ?_
  exact x_zret (M := M_X12_in) dX12_in_18 rfl (by decide) ⟨rfl, rfl⟩ (Nat.le_of_ble_eq_true rfl) (Nat.le_of_ble_eq_true rfl)
set_option maxRecDepth 10000 in
theorem q178 {l : Launch} {E : EE} (hl : l.stackTraces = false) {h : HP} {a0 : Int32} {dg : Int32} (c0 : a0.toInt < 0) (o169 : ob h 277 = some (.inr (15, (RB dg)))) : en_C l E M_X12_fault 1 0 0 [.ref 277, .int a0] h (pF (some (.int (Int32.ofInt 0))) [277] h (fun h' => ob h' 277 = some (.inr (15, ((RB dg).set 0 (.int (Int32.ofInt 1))))) ∧ True)) := by
  refine en_mk m_X12_fault rfl hl (Nat.le_of_ble_eq_true rfl) ?_
  refine x_aload_n (M := M_X12_fault) dX12_fault_0 rfl ?_
  refine x_iconst (M := M_X12_fault) dX12_fault_1 ?_
  refine y_put (M := M_X12_fault) (ci := 15) (C := RX12) (T := TX12) (N := 135) (ty := tyX12) cl15 dX12_fault_2 o169 0 (by decide) t_2391 (Or.inl rfl) (Nat.le_of_ble_eq_true rfl) rfl (fun h170 w171 f172 => ?_)
  refine x_aload_n (M := M_X12_fault) dX12_fault_5 rfl ?_
  refine x_iload_n (M := M_X12_fault) dX12_fault_6 rfl ?_
  refine x_i2l (M := M_X12_fault) dX12_fault_7 ?_
  refine x_lconst (M := M_X12_fault) dX12_fault_8 ?_
  refine x_lconst (M := M_X12_fault) dX12_fault_9 ?_
  refine x_norm (M := M_X12_fault) (st' := [.long (Int64.ofInt 1), .long (Int64.ofInt 0), .long (a0.toInt64), .ref 277]) rfl (vj_cons (by decide +kernel : (Int64.ofNat ((1 : Fin 2) : Nat)) = (Int64.ofInt 1)) (vj_cons (by decide +kernel : (Int64.ofNat ((0 : Fin 2) : Nat)) = (Int64.ofInt 0)) rfl)) rfl rfl rfl ?_
  refine x_callSR (M := M_X12_fault) (M' := M_X12_in) rfl rfl dX12_fault_10 m_X12_in t_2818 t_2819 (q173 hl c0) rfl rfl (Nat.le_of_ble_eq_true rfl) (Nat.le_of_ble_eq_true rfl) (Nat.le_of_ble_eq_true rfl) (Nat.le_of_ble_eq_true rfl) ?_
  refine x_if_ne (M := M_X12_fault) (tgt := 20) dX12_fault_13 (by decide) (fun q => absurd q (by decide +kernel)) (fun _ => ?_)
  refine x_iconst (M := M_X12_fault) dX12_fault_16 ?_
  refine x_goto (M := M_X12_fault) (tgt := 21) dX12_fault_17 (by decide) ?_
  refine x_iconst (M := M_X12_fault) dX12_fault_21 ?_
  refine y_callVR (M := M_X12_fault) (M' := M_X12_fails) rfl rfl dX12_fault_22 m_X12_fails t_2805 t_2807 s_157 (q22 hl w171) rfl rfl w171 rfl (Nat.le_of_ble_eq_true rfl) (Nat.le_of_ble_eq_true rfl) (Nat.le_of_ble_eq_true rfl) (Nat.le_of_ble_eq_true rfl) (fun h174 f175 w176 => ?_)
  obtain ⟨o177, -⟩ := w176
  refine x_if_eq (M := M_X12_fault) (tgt := 30) dX12_fault_25 (by decide) (fun q => absurd q (by decide +kernel)) (fun _ => ?_)
  refine x_iconst (M := M_X12_fault) dX12_fault_28 ?_
  exact x_iret (M := M_X12_fault) dX12_fault_29 rfl ⟨rfl, (fr_tr f175 (by decide) (fr_tr f172 (by decide) fr_rf)), ⟨o177, trivial⟩⟩ (Nat.le_of_ble_eq_true rfl) (Nat.le_of_ble_eq_true rfl)
set_option maxRecDepth 10000 in
theorem lc5_0 {l : Launch} {E : EE} (hl : l.stackTraces = false) (nm : String) {xs : Nat → Int32} (hx : E.2.2.2.2 0 = some (7, xs)) {h : HP} {a0 : Int32} {dg : Int32} (e2 : xs 2 = a0) (c0 : a0.toInt < 0) (o165 : ob h 32 = some (.inr (14, [.ref 33, .ref 162, .ref 166, .int (0 : Int32), .int (0 : Int32), .int (0 : Int32), .ref 167, .ref 170, .ref 173, .ref 177, .ref 193, .ref 208, .ref 222, .ref 238, .ref 252, .ref 274, .ref 275, .ref 276, .int (0 : Int32)]))) (o179 : ob h 277 = some (.inr (15, (RB dg)))) : XX l E (M_law nm) 1312 342628 8074320 (fun o _ => o = .inl (some (.int 1))) 477 [some (.ref 0), some (.ref 32), some (.ref 277), some (.ref 359), some (.int (Int32.ofInt 1)), none, none, none] [] h 328 2463747 := by
  refine x_aload_n (M := (M_law nm)) dL_law_477 rfl ?_
  refine x_aload_n (M := (M_law nm)) dL_law_478 rfl ?_
  refine x_iload (M := (M_law nm)) dL_law_479 rfl ?_
  refine x_iconst (M := (M_law nm)) dL_law_481 ?_
  refine x_iadd (M := (M_law nm)) dL_law_482 ?_
  refine x_sald (M := (M_law nm)) dL_law_483 (by decide) hx (vp_inD (by decide +kernel)) ?_
  refine x_top (M := (M_law nm)) (y := a0) ((congrArg xs (by decide +kernel : ((Int32.ofInt 1) + (Int32.ofInt 1)).toNatClampNeg = 2)).trans e2) ?_
  refine x_aload_n (M := (M_law nm)) dL_law_484 rfl ?_
  refine y_callSW (M := (M_law nm)) (M' := M_L_fault) rfl rfl dL_law_485 m_L_fault t_1033 t_1034 (q164 hl c0 o165) rfl rfl (Nat.le_of_ble_eq_true rfl) (Nat.le_of_ble_eq_true rfl) (Nat.le_of_ble_eq_true rfl) (Nat.le_of_ble_eq_true rfl) (fun h166 f167 w168 => ?_)
  refine x_istore (M := (M_law nm)) dL_law_488 (Nat.le_of_ble_eq_true rfl) rfl ?_
  refine x_aload_n (M := (M_law nm)) dL_law_490 rfl ?_
  refine x_aload_n (M := (M_law nm)) dL_law_491 rfl ?_
  refine x_iload (M := (M_law nm)) dL_law_492 rfl ?_
  refine x_iconst (M := (M_law nm)) dL_law_494 ?_
  refine x_iadd (M := (M_law nm)) dL_law_495 ?_
  refine x_sald (M := (M_law nm)) dL_law_496 (by decide) hx (vp_inD (by decide +kernel)) ?_
  refine x_top (M := (M_law nm)) (y := a0) ((congrArg xs (by decide +kernel : ((Int32.ofInt 1) + (Int32.ofInt 1)).toNatClampNeg = 2)).trans e2) ?_
  have o180 := (f167 277 _ (by decide) o179)
  refine y_callVR (M := (M_law nm)) (M' := M_X12_fault) rfl rfl dL_law_497 m_X12_fault t_2825 t_2826 t_2827 (q178 hl c0 o180) rfl rfl o180 rfl (Nat.le_of_ble_eq_true rfl) (Nat.le_of_ble_eq_true rfl) (Nat.le_of_ble_eq_true rfl) (Nat.le_of_ble_eq_true rfl) (fun h181 f182 w183 => ?_)
  obtain ⟨o184, -⟩ := w183
  refine x_istore (M := (M_law nm)) dL_law_500 (Nat.le_of_ble_eq_true rfl) rfl ?_
  refine x_aload_n (M := (M_law nm)) dL_law_502 rfl ?_
  refine x_callVR (M := (M_law nm)) (M' := M_X12_thrown) rfl rfl dL_law_503 m_X12_thrown t_2797 t_2798 t_2799 (q35 hl o184) rfl rfl o184 rfl (Nat.le_of_ble_eq_true rfl) (Nat.le_of_ble_eq_true rfl) (Nat.le_of_ble_eq_true rfl) (Nat.le_of_ble_eq_true rfl) ?_
  refine x_iload (M := (M_law nm)) dL_law_506 rfl ?_
  refine x_icmp_eq (M := (M_law nm)) (tgt := 513) dL_law_508 (by decide) (fun _ => ?_) (fun q => absurd q (by decide +kernel))
  refine x_iload (M := (M_law nm)) dL_law_513 rfl ?_
  refine x_if_ne (M := (M_law nm)) (tgt := 530) dL_law_515 (by decide) (fun _ => ?_) (fun q => absurd q (by decide +kernel))
  refine x_goto (M := (M_law nm)) (tgt := 2449) dL_law_530 (by decide) ?_
  refine x_iinc (M := (M_law nm)) dL_law_2449 rfl (Nat.le_of_ble_eq_true rfl) rfl ?_
  refine x_lvs (M := (M_law nm)) (lv' := [some (.ref 0), some (.ref 32), some (.ref 277), some (.ref 359), some (.int (Int32.ofInt 7)), some (.int (Int32.ofInt 1)), some (.int (Int32.ofInt 0)), none]) (by rw [(by decide +kernel : (Int32.ofInt 1) + Int32.ofInt 6 = (Int32.ofInt 7))] <;> rfl) ?_
  refine x_goto (M := (M_law nm)) (tgt := 33) dL_law_2452 (by decide) ?_
  refine x_iload (M := (M_law nm)) dL_law_33 rfl ?_
  refine x_aload_n (M := (M_law nm)) dL_law_35 rfl ?_
  refine x_slen (M := (M_law nm)) dL_law_36 (by decide) hx ?_
  refine x_bipush (M := (M_law nm)) dL_law_37 ?_
  refine x_isub (M := (M_law nm)) dL_law_39 ?_
  refine x_icmp_gt (M := (M_law nm)) (tgt := 2455) dL_law_40 (by decide) (fun _ => ?_) (fun q => absurd q (by decide +kernel))
  refine x_iconst (M := (M_law nm)) dL_law_2455 ?_
  exact x_zret (M := (M_law nm)) dL_law_2456 rfl (by decide) rfl (Nat.le_of_ble_eq_true rfl) (Nat.le_of_ble_eq_true rfl)
set_option maxRecDepth 10000 in
theorem q186 {l : Launch} {E : EE} (hl : l.stackTraces = false) {h : HP} {a0 : Int32} (c0 : ¬ (a0.toInt < 0)) (c1 : 1 < a0.toInt) : en_C l E M_X11_fault 6 1 6 [.ref 32, .int a0] h (pT "java/lang/IndexOutOfBoundsException" [] h (fun _ => True)) := by
  refine en_mk m_X11_fault rfl hl (Nat.le_of_ble_eq_true rfl) ?_
  refine x_iload_n (M := M_X11_fault) dX11_fault_0 rfl ?_
  refine x_if_lt (M := M_X11_fault) (tgt := 9) dX11_fault_1 (by decide) (fun q => absurd ((bi_lt rfl (by decide +kernel)).mp q) (by omega : ¬ (a0.toInt < 0))) (fun _ => ?_)
  refine x_iload_n (M := M_X11_fault) dX11_fault_4 rfl ?_
  refine x_iconst (M := M_X11_fault) dX11_fault_5 ?_
  refine x_icmp_le (M := M_X11_fault) (tgt := 17) dX11_fault_6 (by decide) (fun q => absurd ((bi_le rfl (by decide +kernel)).mp q) (by omega : ¬ (a0.toInt ≤ 1))) (fun _ => ?_)
  exact x_throw (M := M_X11_fault) (names := en_nm) rfl dX11_fault_9 dX11_fault_12 dX11_fault_13 dX11_fault_16 (by decide +kernel) en_nm_ok (Or.inl t_748) (Or.inl t_22) (at_X11_IndexOutOfBoundsException_139) (Nat.le_of_ble_eq_true rfl) (Nat.le_of_ble_eq_true rfl) (Nat.le_of_ble_eq_true rfl) (Nat.le_of_ble_eq_true rfl) (fun n9 => ⟨rfl, (fr_tr (fr_app (List.replicate n9 none)) (fun _ h => nomatch h) fr_rf), trivial⟩)
set_option maxRecDepth 10000 in
theorem q191 {l : Launch} {E : EE} (hl : l.stackTraces = false) {h : HP} {a0 : Int32} (c0 : ¬ (a0.toInt < 0)) (c1 : 1 < a0.toInt) (o187 : ob h 32 = some (.inr (14, [.ref 33, .ref 162, .ref 166, .int (0 : Int32), .int (0 : Int32), .int (0 : Int32), .ref 167, .ref 170, .ref 173, .ref 177, .ref 193, .ref 208, .ref 222, .ref 238, .ref 252, .ref 274, .ref 275, .ref 276, .int (0 : Int32)]))) : en_C l E M_L_fault 7 1 6 [.ref 32, .int a0, .ref 359] h (pF (some (.int (Int32.ofInt 1))) [] h (fun _ => True)) := by
  refine en_mkW m_L_fault rfl hl (Nat.le_of_ble_eq_true rfl) ?_
  refine x_aload_n (M := M_L_fault) dL_fault_0 rfl ?_
  refine x_iconst (M := M_L_fault) dL_fault_1 ?_
  refine x_aload_n (M := M_L_fault) dL_fault_2 rfl ?_
  refine x_iload_n (M := M_L_fault) dL_fault_3 rfl ?_
  refine y_callVHX (M := M_L_fault) (M' := M_X11_fault) (i9 := 3) (nx := 13) rfl dL_fault_4 m_X11_fault t_1036 t_1037 t_1038 o187 rfl (q186 hl c0 c1) rfl rfl (Nat.le_of_ble_eq_true rfl) (Nat.le_of_ble_eq_true rfl) (Nat.le_of_ble_eq_true rfl) (Nat.le_of_ble_eq_true rfl) (en_hdn (k0 := 3) [] [] rfl (fun _ h => nomatch h) (by decide +kernel) (by decide) t_739 n_750 dL_fault_12) (by decide) rfl (fun h188 f189 w190 => ?_)
  refine x_iconst (M := M_L_fault) dL_fault_13 ?_
  exact x_iret (M := M_L_fault) dL_fault_14 rfl ⟨rfl, (fr_tr f189 (fun _ h => nomatch h) fr_rf), trivial⟩ (Nat.le_of_ble_eq_true rfl) (Nat.le_of_ble_eq_true rfl)
set_option maxRecDepth 10000 in
theorem q200 {l : Launch} {E : EE} (hl : l.stackTraces = false) {h : HP} {a0 : Int32} (c0 : ¬ (a0.toInt < 0)) (c1 : 1 < a0.toInt) : en_C l E M_X12_in 0 0 0 [.long (a0.toInt64), .long (Int64.ofInt 0), .long (Int64.ofInt 1)] h (pR (some (.int (Int32.ofInt 0))) h) := by
  refine en_mk m_X12_in rfl hl (Nat.le_of_ble_eq_true rfl) ?_
  refine x_lload_n (M := M_X12_in) dX12_in_0 rfl ?_
  refine x_lload_n (M := M_X12_in) dX12_in_1 rfl ?_
  refine x_lcmp (M := M_X12_in) dX12_in_2 ?_
  refine x_if_lt (M := M_X12_in) (tgt := 17) dX12_in_3 (by decide) (fun q => absurd ((bc_lt (i_i2l rfl) (by decide +kernel)).mp q) (by omega : ¬ (a0.toInt < 0))) (fun _ => ?_)
  refine x_lload_n (M := M_X12_in) dX12_in_6 rfl ?_
  refine x_lload (M := M_X12_in) dX12_in_7 rfl ?_
  refine x_lcmp (M := M_X12_in) dX12_in_9 ?_
  refine x_if_gt (M := M_X12_in) (tgt := 17) dX12_in_10 (by decide) (fun _ => ?_) (fun q => absurd ((bc_gt (i_i2l rfl) (by decide +kernel)).mpr (by omega : (1 < a0.toInt : Prop))) q)
  refine x_iconst (M := M_X12_in) dX12_in_17 ?_
  exact x_zret (M := M_X12_in) dX12_in_18 rfl (by decide) ⟨rfl, rfl⟩ (Nat.le_of_ble_eq_true rfl) (Nat.le_of_ble_eq_true rfl)
set_option maxRecDepth 10000 in
theorem q205 {l : Launch} {E : EE} (hl : l.stackTraces = false) {h : HP} {a0 : Int32} {dg : Int32} (c0 : ¬ (a0.toInt < 0)) (c1 : 1 < a0.toInt) (o196 : ob h 277 = some (.inr (15, (RB dg)))) : en_C l E M_X12_fault 1 0 0 [.ref 277, .int a0] h (pF (some (.int (Int32.ofInt 0))) [277] h (fun h' => ob h' 277 = some (.inr (15, ((RB dg).set 0 (.int (Int32.ofInt 1))))) ∧ True)) := by
  refine en_mk m_X12_fault rfl hl (Nat.le_of_ble_eq_true rfl) ?_
  refine x_aload_n (M := M_X12_fault) dX12_fault_0 rfl ?_
  refine x_iconst (M := M_X12_fault) dX12_fault_1 ?_
  refine y_put (M := M_X12_fault) (ci := 15) (C := RX12) (T := TX12) (N := 135) (ty := tyX12) cl15 dX12_fault_2 o196 0 (by decide) t_2391 (Or.inl rfl) (Nat.le_of_ble_eq_true rfl) rfl (fun h197 w198 f199 => ?_)
  refine x_aload_n (M := M_X12_fault) dX12_fault_5 rfl ?_
  refine x_iload_n (M := M_X12_fault) dX12_fault_6 rfl ?_
  refine x_i2l (M := M_X12_fault) dX12_fault_7 ?_
  refine x_lconst (M := M_X12_fault) dX12_fault_8 ?_
  refine x_lconst (M := M_X12_fault) dX12_fault_9 ?_
  refine x_norm (M := M_X12_fault) (st' := [.long (Int64.ofInt 1), .long (Int64.ofInt 0), .long (a0.toInt64), .ref 277]) rfl (vj_cons (by decide +kernel : (Int64.ofNat ((1 : Fin 2) : Nat)) = (Int64.ofInt 1)) (vj_cons (by decide +kernel : (Int64.ofNat ((0 : Fin 2) : Nat)) = (Int64.ofInt 0)) rfl)) rfl rfl rfl ?_
  refine x_callSR (M := M_X12_fault) (M' := M_X12_in) rfl rfl dX12_fault_10 m_X12_in t_2818 t_2819 (q200 hl c0 c1) rfl rfl (Nat.le_of_ble_eq_true rfl) (Nat.le_of_ble_eq_true rfl) (Nat.le_of_ble_eq_true rfl) (Nat.le_of_ble_eq_true rfl) ?_
  refine x_if_ne (M := M_X12_fault) (tgt := 20) dX12_fault_13 (by decide) (fun q => absurd q (by decide +kernel)) (fun _ => ?_)
  refine x_iconst (M := M_X12_fault) dX12_fault_16 ?_
  refine x_goto (M := M_X12_fault) (tgt := 21) dX12_fault_17 (by decide) ?_
  refine x_iconst (M := M_X12_fault) dX12_fault_21 ?_
  refine y_callVR (M := M_X12_fault) (M' := M_X12_fails) rfl rfl dX12_fault_22 m_X12_fails t_2805 t_2807 s_157 (q22 hl w198) rfl rfl w198 rfl (Nat.le_of_ble_eq_true rfl) (Nat.le_of_ble_eq_true rfl) (Nat.le_of_ble_eq_true rfl) (Nat.le_of_ble_eq_true rfl) (fun h201 f202 w203 => ?_)
  obtain ⟨o204, -⟩ := w203
  refine x_if_eq (M := M_X12_fault) (tgt := 30) dX12_fault_25 (by decide) (fun q => absurd q (by decide +kernel)) (fun _ => ?_)
  refine x_iconst (M := M_X12_fault) dX12_fault_28 ?_
  exact x_iret (M := M_X12_fault) dX12_fault_29 rfl ⟨rfl, (fr_tr f202 (by decide) (fr_tr f199 (by decide) fr_rf)), ⟨o204, trivial⟩⟩ (Nat.le_of_ble_eq_true rfl) (Nat.le_of_ble_eq_true rfl)
set_option maxRecDepth 10000 in
theorem lc5_1 {l : Launch} {E : EE} (hl : l.stackTraces = false) (nm : String) {xs : Nat → Int32} (hx : E.2.2.2.2 0 = some (7, xs)) {h : HP} {a0 : Int32} {dg : Int32} (e2 : xs 2 = a0) (c0 : ¬ (a0.toInt < 0)) (c1 : 1 < a0.toInt) (o192 : ob h 32 = some (.inr (14, [.ref 33, .ref 162, .ref 166, .int (0 : Int32), .int (0 : Int32), .int (0 : Int32), .ref 167, .ref 170, .ref 173, .ref 177, .ref 193, .ref 208, .ref 222, .ref 238, .ref 252, .ref 274, .ref 275, .ref 276, .int (0 : Int32)]))) (o206 : ob h 277 = some (.inr (15, (RB dg)))) : XX l E (M_law nm) 1312 342628 8074320 (fun o _ => o = .inl (some (.int 1))) 477 [some (.ref 0), some (.ref 32), some (.ref 277), some (.ref 359), some (.int (Int32.ofInt 1)), none, none, none] [] h 328 2463747 := by
  refine x_aload_n (M := (M_law nm)) dL_law_477 rfl ?_
  refine x_aload_n (M := (M_law nm)) dL_law_478 rfl ?_
  refine x_iload (M := (M_law nm)) dL_law_479 rfl ?_
  refine x_iconst (M := (M_law nm)) dL_law_481 ?_
  refine x_iadd (M := (M_law nm)) dL_law_482 ?_
  refine x_sald (M := (M_law nm)) dL_law_483 (by decide) hx (vp_inD (by decide +kernel)) ?_
  refine x_top (M := (M_law nm)) (y := a0) ((congrArg xs (by decide +kernel : ((Int32.ofInt 1) + (Int32.ofInt 1)).toNatClampNeg = 2)).trans e2) ?_
  refine x_aload_n (M := (M_law nm)) dL_law_484 rfl ?_
  refine y_callSW (M := (M_law nm)) (M' := M_L_fault) rfl rfl dL_law_485 m_L_fault t_1033 t_1034 (q191 hl c0 c1 o192) rfl rfl (Nat.le_of_ble_eq_true rfl) (Nat.le_of_ble_eq_true rfl) (Nat.le_of_ble_eq_true rfl) (Nat.le_of_ble_eq_true rfl) (fun h193 f194 w195 => ?_)
  refine x_istore (M := (M_law nm)) dL_law_488 (Nat.le_of_ble_eq_true rfl) rfl ?_
  refine x_aload_n (M := (M_law nm)) dL_law_490 rfl ?_
  refine x_aload_n (M := (M_law nm)) dL_law_491 rfl ?_
  refine x_iload (M := (M_law nm)) dL_law_492 rfl ?_
  refine x_iconst (M := (M_law nm)) dL_law_494 ?_
  refine x_iadd (M := (M_law nm)) dL_law_495 ?_
  refine x_sald (M := (M_law nm)) dL_law_496 (by decide) hx (vp_inD (by decide +kernel)) ?_
  refine x_top (M := (M_law nm)) (y := a0) ((congrArg xs (by decide +kernel : ((Int32.ofInt 1) + (Int32.ofInt 1)).toNatClampNeg = 2)).trans e2) ?_
  have o207 := (f194 277 _ (by decide) o206)
  refine y_callVR (M := (M_law nm)) (M' := M_X12_fault) rfl rfl dL_law_497 m_X12_fault t_2825 t_2826 t_2827 (q205 hl c0 c1 o207) rfl rfl o207 rfl (Nat.le_of_ble_eq_true rfl) (Nat.le_of_ble_eq_true rfl) (Nat.le_of_ble_eq_true rfl) (Nat.le_of_ble_eq_true rfl) (fun h208 f209 w210 => ?_)
  obtain ⟨o211, -⟩ := w210
  refine x_istore (M := (M_law nm)) dL_law_500 (Nat.le_of_ble_eq_true rfl) rfl ?_
  refine x_aload_n (M := (M_law nm)) dL_law_502 rfl ?_
  refine x_callVR (M := (M_law nm)) (M' := M_X12_thrown) rfl rfl dL_law_503 m_X12_thrown t_2797 t_2798 t_2799 (q35 hl o211) rfl rfl o211 rfl (Nat.le_of_ble_eq_true rfl) (Nat.le_of_ble_eq_true rfl) (Nat.le_of_ble_eq_true rfl) (Nat.le_of_ble_eq_true rfl) ?_
  refine x_iload (M := (M_law nm)) dL_law_506 rfl ?_
  refine x_icmp_eq (M := (M_law nm)) (tgt := 513) dL_law_508 (by decide) (fun _ => ?_) (fun q => absurd q (by decide +kernel))
  refine x_iload (M := (M_law nm)) dL_law_513 rfl ?_
  refine x_if_ne (M := (M_law nm)) (tgt := 530) dL_law_515 (by decide) (fun _ => ?_) (fun q => absurd q (by decide +kernel))
  refine x_goto (M := (M_law nm)) (tgt := 2449) dL_law_530 (by decide) ?_
  refine x_iinc (M := (M_law nm)) dL_law_2449 rfl (Nat.le_of_ble_eq_true rfl) rfl ?_
  refine x_lvs (M := (M_law nm)) (lv' := [some (.ref 0), some (.ref 32), some (.ref 277), some (.ref 359), some (.int (Int32.ofInt 7)), some (.int (Int32.ofInt 1)), some (.int (Int32.ofInt 0)), none]) (by rw [(by decide +kernel : (Int32.ofInt 1) + Int32.ofInt 6 = (Int32.ofInt 7))] <;> rfl) ?_
  refine x_goto (M := (M_law nm)) (tgt := 33) dL_law_2452 (by decide) ?_
  refine x_iload (M := (M_law nm)) dL_law_33 rfl ?_
  refine x_aload_n (M := (M_law nm)) dL_law_35 rfl ?_
  refine x_slen (M := (M_law nm)) dL_law_36 (by decide) hx ?_
  refine x_bipush (M := (M_law nm)) dL_law_37 ?_
  refine x_isub (M := (M_law nm)) dL_law_39 ?_
  refine x_icmp_gt (M := (M_law nm)) (tgt := 2455) dL_law_40 (by decide) (fun _ => ?_) (fun q => absurd q (by decide +kernel))
  refine x_iconst (M := (M_law nm)) dL_law_2455 ?_
  exact x_zret (M := (M_law nm)) dL_law_2456 rfl (by decide) rfl (Nat.le_of_ble_eq_true rfl) (Nat.le_of_ble_eq_true rfl)
set_option maxRecDepth 10000 in
theorem q213 {l : Launch} {E : EE} (hl : l.stackTraces = false) {h : HP} {a0 : Int32} (c0 : ¬ (a0.toInt < 0)) (c1 : ¬ (1 < a0.toInt)) (c2 : a0.toInt = 0) (o212 : ob h 32 = some (.inr (14, [.ref 33, .ref 162, .ref 166, .int (0 : Int32), .int (0 : Int32), .int (0 : Int32), .ref 167, .ref 170, .ref 173, .ref 177, .ref 193, .ref 208, .ref 222, .ref 238, .ref 252, .ref 274, .ref 275, .ref 276, .int (0 : Int32)]))) : en_C l E M_X11_fault 0 0 0 [.ref 32, .int a0] h (pR (some (.int (Int32.ofInt 0))) h) := by
  refine en_mk m_X11_fault rfl hl (Nat.le_of_ble_eq_true rfl) ?_
  refine x_iload_n (M := M_X11_fault) dX11_fault_0 rfl ?_
  refine x_if_lt (M := M_X11_fault) (tgt := 9) dX11_fault_1 (by decide) (fun q => absurd ((bi_lt rfl (by decide +kernel)).mp q) (by omega : ¬ (a0.toInt < 0))) (fun _ => ?_)
  refine x_iload_n (M := M_X11_fault) dX11_fault_4 rfl ?_
  refine x_iconst (M := M_X11_fault) dX11_fault_5 ?_
  refine x_icmp_le (M := M_X11_fault) (tgt := 17) dX11_fault_6 (by decide) (fun _ => ?_) (fun q => absurd ((bi_le rfl (by decide +kernel)).mpr (by omega : (a0.toInt ≤ 1 : Prop))) q)
  refine x_iload_n (M := M_X11_fault) dX11_fault_17 rfl ?_
  refine x_if_ne (M := M_X11_fault) (tgt := 28) dX11_fault_18 (by decide) (fun q => absurd ((bi_eq rfl (by decide +kernel)).mpr (by omega : (a0.toInt = 0 : Prop))) q) (fun _ => ?_)
  refine x_aload_n (M := M_X11_fault) dX11_fault_21 rfl ?_
  refine x_getf (M := M_X11_fault) (ci := 14) (C := RX11) (T := TX11) (N := 19) (ty := tyX11) cl14 dX11_fault_22 o212 4 (by decide) t_567 (v := .int (0 : Int32)) rfl ?_
  refine x_goto (M := M_X11_fault) (tgt := 32) dX11_fault_25 (by decide) ?_
  refine x_top (M := M_X11_fault) (y := (Int32.ofInt 0)) (by decide +kernel) ?_
  exact x_iret (M := M_X11_fault) dX11_fault_32 rfl ⟨rfl, rfl⟩ (Nat.le_of_ble_eq_true rfl) (Nat.le_of_ble_eq_true rfl)
set_option maxRecDepth 10000 in
theorem q224 {l : Launch} {E : EE} (hl : l.stackTraces = false) {h : HP} {a0 : Int32} (c0 : ¬ (a0.toInt < 0)) (c1 : ¬ (1 < a0.toInt)) (c2 : a0.toInt = 0) (o214 : ob h 32 = some (.inr (14, [.ref 33, .ref 162, .ref 166, .int (0 : Int32), .int (0 : Int32), .int (0 : Int32), .ref 167, .ref 170, .ref 173, .ref 177, .ref 193, .ref 208, .ref 222, .ref 238, .ref 252, .ref 274, .ref 275, .ref 276, .int (0 : Int32)]))) (o219 : ob h 359 = some (.inl (1, 1, .inr (.inl (fun _ => 0))))) : en_C l E M_L_fault 1 0 0 [.ref 32, .int a0, .ref 359] h (pF (some (.int (Int32.ofInt 0))) [359] h (fun h' => ob h' 359 = some (.inl (1, 1, .inr (.inl (fun _ => 0)))) ∧ True)) := by
  refine en_mkW m_L_fault rfl hl (Nat.le_of_ble_eq_true rfl) ?_
  refine x_aload_n (M := M_L_fault) dL_fault_0 rfl ?_
  refine x_iconst (M := M_L_fault) dL_fault_1 ?_
  refine x_aload_n (M := M_L_fault) dL_fault_2 rfl ?_
  refine x_iload_n (M := M_L_fault) dL_fault_3 rfl ?_
  refine x_callVH (M := M_L_fault) (M' := M_X11_fault) rfl dL_fault_4 m_X11_fault t_1036 t_1037 t_1038 o214 rfl [.int a0] rfl rfl (Nat.le_of_ble_eq_true rfl) (q213 hl c0 c1 c2 o214) (Nat.le_of_ble_eq_true rfl) (Nat.le_of_ble_eq_true rfl) (Nat.le_of_ble_eq_true rfl) (fun N h' hp => nomatch hp.1) (fun v h' hp => ?_)
  obtain ⟨e218, rfl⟩ := hp
  cases e218
  refine x_i2l (M := M_L_fault) dL_fault_7 ?_
  refine x_norm (M := M_L_fault) (st' := [.long (Int64.ofInt 0), .int (Int32.ofInt 0), .ref 359]) rfl (vj_cons (by decide +kernel : ((Int32.ofInt 0).toInt64) = (Int64.ofInt 0)) rfl) rfl rfl rfl ?_
  refine y_last (M := M_L_fault) (k := 0) dL_fault_8 o219 (vp_inD (by decide +kernel)) (by decide +kernel) (fun h220 w221 f222 => ?_)
  have w223 : ob h220 359 = some (.inl (1, 1, .inr (.inl (fun _ => 0)))) := by rw [w221, uq_z (k := 0)]
  refine x_goto (M := M_L_fault) (tgt := 15) dL_fault_9 (by decide) ?_
  refine x_iconst (M := M_L_fault) dL_fault_15 ?_
  exact x_iret (M := M_L_fault) dL_fault_16 rfl ⟨rfl, (fr_tr f222 (by decide) fr_rf), ⟨w223, trivial⟩⟩ (Nat.le_of_ble_eq_true rfl) (Nat.le_of_ble_eq_true rfl)
set_option maxRecDepth 10000 in
theorem q235 {l : Launch} {E : EE} (hl : l.stackTraces = false) {h : HP} {a0 : Int32} (c0 : ¬ (a0.toInt < 0)) (c1 : ¬ (1 < a0.toInt)) (c2 : a0.toInt = 0) : en_C l E M_X12_in 0 0 0 [.long (a0.toInt64), .long (Int64.ofInt 0), .long (Int64.ofInt 1)] h (pR (some (.int (Int32.ofInt 1))) h) := by
  refine en_mk m_X12_in rfl hl (Nat.le_of_ble_eq_true rfl) ?_
  refine x_lload_n (M := M_X12_in) dX12_in_0 rfl ?_
  refine x_lload_n (M := M_X12_in) dX12_in_1 rfl ?_
  refine x_lcmp (M := M_X12_in) dX12_in_2 ?_
  refine x_if_lt (M := M_X12_in) (tgt := 17) dX12_in_3 (by decide) (fun q => absurd ((bc_lt (i_i2l rfl) (by decide +kernel)).mp q) (by omega : ¬ (a0.toInt < 0))) (fun _ => ?_)
  refine x_lload_n (M := M_X12_in) dX12_in_6 rfl ?_
  refine x_lload (M := M_X12_in) dX12_in_7 rfl ?_
  refine x_lcmp (M := M_X12_in) dX12_in_9 ?_
  refine x_if_gt (M := M_X12_in) (tgt := 17) dX12_in_10 (by decide) (fun q => absurd ((bc_gt (i_i2l rfl) (by decide +kernel)).mp q) (by omega : ¬ (1 < a0.toInt))) (fun _ => ?_)
  refine x_iconst (M := M_X12_in) dX12_in_13 ?_
  refine x_goto (M := M_X12_in) (tgt := 18) dX12_in_14 (by decide) ?_
  exact x_zret (M := M_X12_in) dX12_in_18 rfl (by decide) ⟨rfl, rfl⟩ (Nat.le_of_ble_eq_true rfl) (Nat.le_of_ble_eq_true rfl)
set_option maxRecDepth 10000 in
theorem q241 {l : Launch} {E : EE} (hl : l.stackTraces = false) {h : HP} {dg : Int32} (o236 : ob h 277 = some (.inr (15, ((RB dg).set 0 (.int (Int32.ofInt 0)))))) : en_C l E M_X12_fails 0 0 0 [.ref 277, .int (Int32.ofInt 0), .int (Int32.ofInt 1)] h (pF (some (.int (Int32.ofInt 0))) [277] h (fun h' => ob h' 277 = some (.inr (15, ((RB dg).set 0 (.int (Int32.ofInt 0))))) ∧ True)) := by
  refine en_mk m_X12_fails rfl hl (Nat.le_of_ble_eq_true rfl) ?_
  refine x_aload_n (M := M_X12_fails) dX12_fails_0 rfl ?_
  refine x_iload_n (M := M_X12_fails) dX12_fails_1 rfl ?_
  refine x_if_eq (M := M_X12_fails) (tgt := 16) dX12_fails_2 (by decide) (fun _ => ?_) (fun q => absurd q (by decide +kernel))
  refine x_aload_n (M := M_X12_fails) dX12_fails_16 rfl ?_
  refine x_getf (M := M_X12_fails) (ci := 15) (C := RX12) (T := TX12) (N := 135) (ty := tyX12) cl15 dX12_fails_17 o236 0 (by decide) t_2391 (v := .int (Int32.ofInt 0)) rfl ?_
  refine y_put (M := M_X12_fails) (ci := 15) (C := RX12) (T := TX12) (N := 135) (ty := tyX12) cl15 dX12_fails_20 o236 0 (by decide) t_2391 (Or.inl rfl) (Nat.le_of_ble_eq_true rfl) rfl (fun h237 w238 f239 => ?_)
  have w240 : ob h237 277 = some (.inr (15, ((RB dg).set 0 (.int (Int32.ofInt 0))))) := by rw [w238, List.set_set]
  refine x_aload_n (M := M_X12_fails) dX12_fails_23 rfl ?_
  refine x_getf (M := M_X12_fails) (ci := 15) (C := RX12) (T := TX12) (N := 135) (ty := tyX12) cl15 dX12_fails_24 w240 0 (by decide) t_2391 (v := .int (Int32.ofInt 0)) rfl ?_
  refine x_if_eq (M := M_X12_fails) (tgt := 34) dX12_fails_27 (by decide) (fun _ => ?_) (fun q => absurd q (by decide +kernel))
  refine x_iconst (M := M_X12_fails) dX12_fails_34 ?_
  exact x_zret (M := M_X12_fails) dX12_fails_35 rfl (by decide) ⟨rfl, (fr_tr f239 (by decide) fr_rf), ⟨w240, trivial⟩⟩ (Nat.le_of_ble_eq_true rfl) (Nat.le_of_ble_eq_true rfl)
set_option maxRecDepth 10000 in
theorem q246 {l : Launch} {E : EE} (hl : l.stackTraces = false) {h : HP} {a0 : Int32} {dg : Int32} (c0 : ¬ (a0.toInt < 0)) (c1 : ¬ (1 < a0.toInt)) (c2 : a0.toInt = 0) (o231 : ob h 277 = some (.inr (15, (RB dg)))) : en_C l E M_X12_fault 1 0 0 [.ref 277, .int a0] h (pF (some (.int (Int32.ofInt 0))) [277] h (fun h' => ob h' 277 = some (.inr (15, ((RB dg).set 0 (.int (Int32.ofInt 0))))) ∧ True)) := by
  refine en_mk m_X12_fault rfl hl (Nat.le_of_ble_eq_true rfl) ?_
  refine x_aload_n (M := M_X12_fault) dX12_fault_0 rfl ?_
  refine x_iconst (M := M_X12_fault) dX12_fault_1 ?_
  refine y_put (M := M_X12_fault) (ci := 15) (C := RX12) (T := TX12) (N := 135) (ty := tyX12) cl15 dX12_fault_2 o231 0 (by decide) t_2391 (Or.inl rfl) (Nat.le_of_ble_eq_true rfl) rfl (fun h232 w233 f234 => ?_)
  refine x_aload_n (M := M_X12_fault) dX12_fault_5 rfl ?_
  refine x_iload_n (M := M_X12_fault) dX12_fault_6 rfl ?_
  refine x_i2l (M := M_X12_fault) dX12_fault_7 ?_
  refine x_lconst (M := M_X12_fault) dX12_fault_8 ?_
  refine x_lconst (M := M_X12_fault) dX12_fault_9 ?_
  refine x_norm (M := M_X12_fault) (st' := [.long (Int64.ofInt 1), .long (Int64.ofInt 0), .long (a0.toInt64), .ref 277]) rfl (vj_cons (by decide +kernel : (Int64.ofNat ((1 : Fin 2) : Nat)) = (Int64.ofInt 1)) (vj_cons (by decide +kernel : (Int64.ofNat ((0 : Fin 2) : Nat)) = (Int64.ofInt 0)) rfl)) rfl rfl rfl ?_
  refine x_callSR (M := M_X12_fault) (M' := M_X12_in) rfl rfl dX12_fault_10 m_X12_in t_2818 t_2819 (q235 hl c0 c1 c2) rfl rfl (Nat.le_of_ble_eq_true rfl) (Nat.le_of_ble_eq_true rfl) (Nat.le_of_ble_eq_true rfl) (Nat.le_of_ble_eq_true rfl) ?_
  refine x_if_ne (M := M_X12_fault) (tgt := 20) dX12_fault_13 (by decide) (fun _ => ?_) (fun q => absurd q (by decide +kernel))
  refine x_iconst (M := M_X12_fault) dX12_fault_20 ?_
  refine x_iconst (M := M_X12_fault) dX12_fault_21 ?_
  refine y_callVR (M := M_X12_fault) (M' := M_X12_fails) rfl rfl dX12_fault_22 m_X12_fails t_2805 t_2807 s_157 (q241 hl w233) rfl rfl w233 rfl (Nat.le_of_ble_eq_true rfl) (Nat.le_of_ble_eq_true rfl) (Nat.le_of_ble_eq_true rfl) (Nat.le_of_ble_eq_true rfl) (fun h242 f243 w244 => ?_)
  obtain ⟨o245, -⟩ := w244
  refine x_if_eq (M := M_X12_fault) (tgt := 30) dX12_fault_25 (by decide) (fun _ => ?_) (fun q => absurd q (by decide +kernel))
  refine x_iload_n (M := M_X12_fault) dX12_fault_30 rfl ?_
  refine x_if_ne (M := M_X12_fault) (tgt := 41) dX12_fault_31 (by decide) (fun q => absurd ((bi_eq rfl (by decide +kernel)).mpr (by omega : (a0.toInt = 0 : Prop))) q) (fun _ => ?_)
  refine x_aload_n (M := M_X12_fault) dX12_fault_34 rfl ?_
  refine x_getf (M := M_X12_fault) (ci := 15) (C := RX12) (T := TX12) (N := 135) (ty := tyX12) cl15 dX12_fault_35 o245 7 (by decide) t_2398 (v := .int (0 : Int32)) rfl ?_
  refine x_goto (M := M_X12_fault) (tgt := 45) dX12_fault_38 (by decide) ?_
  refine x_top (M := M_X12_fault) (y := (Int32.ofInt 0)) (by decide +kernel) ?_
  exact x_iret (M := M_X12_fault) dX12_fault_45 rfl ⟨rfl, (fr_tr f243 (by decide) (fr_tr f234 (by decide) fr_rf)), ⟨o245, trivial⟩⟩ (Nat.le_of_ble_eq_true rfl) (Nat.le_of_ble_eq_true rfl)
set_option maxRecDepth 10000 in
theorem q254 {l : Launch} {E : EE} (hl : l.stackTraces = false) {h : HP} {dg : Int32} (o253 : ob h 277 = some (.inr (15, ((RB dg).set 0 (.int (Int32.ofInt 0)))))) : en_C l E M_X12_thrown 0 0 0 [.ref 277] h (pR (some (.int (Int32.ofInt 0))) h) := by
  refine en_mk m_X12_thrown rfl hl (Nat.le_of_ble_eq_true rfl) ?_
  refine x_aload_n (M := M_X12_thrown) dX12_thrown_0 rfl ?_
  refine x_getf (M := M_X12_thrown) (ci := 15) (C := RX12) (T := TX12) (N := 135) (ty := tyX12) cl15 dX12_thrown_1 o253 0 (by decide) t_2391 (v := .int (Int32.ofInt 0)) rfl ?_
  exact x_iret (M := M_X12_thrown) dX12_thrown_4 rfl ⟨rfl, rfl⟩ (Nat.le_of_ble_eq_true rfl) (Nat.le_of_ble_eq_true rfl)
set_option maxRecDepth 10000 in
theorem lc5_2 {l : Launch} {E : EE} (hl : l.stackTraces = false) (nm : String) {xs : Nat → Int32} (hx : E.2.2.2.2 0 = some (7, xs)) {h : HP} {a0 : Int32} {dg : Int32} (e2 : xs 2 = a0) (c0 : ¬ (a0.toInt < 0)) (c1 : ¬ (1 < a0.toInt)) (c2 : a0.toInt = 0) (o225 : ob h 32 = some (.inr (14, [.ref 33, .ref 162, .ref 166, .int (0 : Int32), .int (0 : Int32), .int (0 : Int32), .ref 167, .ref 170, .ref 173, .ref 177, .ref 193, .ref 208, .ref 222, .ref 238, .ref 252, .ref 274, .ref 275, .ref 276, .int (0 : Int32)]))) (o226 : ob h 359 = some (.inl (1, 1, .inr (.inl (fun _ => 0))))) (o247 : ob h 277 = some (.inr (15, (RB dg)))) : XX l E (M_law nm) 1312 342628 8074320 (fun o _ => o = .inl (some (.int 1))) 477 [some (.ref 0), some (.ref 32), some (.ref 277), some (.ref 359), some (.int (Int32.ofInt 1)), none, none, none] [] h 328 2463747 := by
  refine x_aload_n (M := (M_law nm)) dL_law_477 rfl ?_
  refine x_aload_n (M := (M_law nm)) dL_law_478 rfl ?_
  refine x_iload (M := (M_law nm)) dL_law_479 rfl ?_
  refine x_iconst (M := (M_law nm)) dL_law_481 ?_
  refine x_iadd (M := (M_law nm)) dL_law_482 ?_
  refine x_sald (M := (M_law nm)) dL_law_483 (by decide) hx (vp_inD (by decide +kernel)) ?_
  refine x_top (M := (M_law nm)) (y := a0) ((congrArg xs (by decide +kernel : ((Int32.ofInt 1) + (Int32.ofInt 1)).toNatClampNeg = 2)).trans e2) ?_
  refine x_aload_n (M := (M_law nm)) dL_law_484 rfl ?_
  refine y_callSW (M := (M_law nm)) (M' := M_L_fault) rfl rfl dL_law_485 m_L_fault t_1033 t_1034 (q224 hl c0 c1 c2 o225 o226) rfl rfl (Nat.le_of_ble_eq_true rfl) (Nat.le_of_ble_eq_true rfl) (Nat.le_of_ble_eq_true rfl) (Nat.le_of_ble_eq_true rfl) (fun h227 f228 w229 => ?_)
  obtain ⟨o230, -⟩ := w229
  refine x_istore (M := (M_law nm)) dL_law_488 (Nat.le_of_ble_eq_true rfl) rfl ?_
  refine x_aload_n (M := (M_law nm)) dL_law_490 rfl ?_
  refine x_aload_n (M := (M_law nm)) dL_law_491 rfl ?_
  refine x_iload (M := (M_law nm)) dL_law_492 rfl ?_
  refine x_iconst (M := (M_law nm)) dL_law_494 ?_
  refine x_iadd (M := (M_law nm)) dL_law_495 ?_
  refine x_sald (M := (M_law nm)) dL_law_496 (by decide) hx (vp_inD (by decide +kernel)) ?_
  refine x_top (M := (M_law nm)) (y := a0) ((congrArg xs (by decide +kernel : ((Int32.ofInt 1) + (Int32.ofInt 1)).toNatClampNeg = 2)).trans e2) ?_
  have o248 := (f228 277 _ (by decide) o247)
  refine y_callVR (M := (M_law nm)) (M' := M_X12_fault) rfl rfl dL_law_497 m_X12_fault t_2825 t_2826 t_2827 (q246 hl c0 c1 c2 o248) rfl rfl o248 rfl (Nat.le_of_ble_eq_true rfl) (Nat.le_of_ble_eq_true rfl) (Nat.le_of_ble_eq_true rfl) (Nat.le_of_ble_eq_true rfl) (fun h249 f250 w251 => ?_)
  obtain ⟨o252, -⟩ := w251
  refine x_istore (M := (M_law nm)) dL_law_500 (Nat.le_of_ble_eq_true rfl) rfl ?_
  refine x_aload_n (M := (M_law nm)) dL_law_502 rfl ?_
  refine x_callVR (M := (M_law nm)) (M' := M_X12_thrown) rfl rfl dL_law_503 m_X12_thrown t_2797 t_2798 t_2799 (q254 hl o252) rfl rfl o252 rfl (Nat.le_of_ble_eq_true rfl) (Nat.le_of_ble_eq_true rfl) (Nat.le_of_ble_eq_true rfl) (Nat.le_of_ble_eq_true rfl) ?_
  refine x_iload (M := (M_law nm)) dL_law_506 rfl ?_
  refine x_icmp_eq (M := (M_law nm)) (tgt := 513) dL_law_508 (by decide) (fun _ => ?_) (fun q => absurd q (by decide +kernel))
  refine x_iload (M := (M_law nm)) dL_law_513 rfl ?_
  refine x_if_ne (M := (M_law nm)) (tgt := 530) dL_law_515 (by decide) (fun q => absurd q (by decide +kernel)) (fun _ => ?_)
  refine x_aload_n (M := (M_law nm)) dL_law_518 rfl ?_
  refine x_iconst (M := (M_law nm)) dL_law_519 ?_
  have o255 := (f250 359 _ (by decide) o230)
  refine x_lald (M := (M_law nm)) dL_law_520 o255 (vp_inD (by decide +kernel)) ?_
  refine x_topl (M := (M_law nm)) (y := (Int64.ofInt 0)) (by decide +kernel) ?_
  refine x_iload (M := (M_law nm)) dL_law_521 rfl ?_
  refine x_i2l (M := (M_law nm)) dL_law_523 ?_
  refine x_lcmp (M := (M_law nm)) dL_law_524 ?_
  refine x_if_eq (M := (M_law nm)) (tgt := 530) dL_law_525 (by decide) (fun _ => ?_) (fun q => absurd q (by decide +kernel))
  refine x_goto (M := (M_law nm)) (tgt := 2449) dL_law_530 (by decide) ?_
  refine x_iinc (M := (M_law nm)) dL_law_2449 rfl (Nat.le_of_ble_eq_true rfl) rfl ?_
  refine x_lvs (M := (M_law nm)) (lv' := [some (.ref 0), some (.ref 32), some (.ref 277), some (.ref 359), some (.int (Int32.ofInt 7)), some (.int (Int32.ofInt 0)), some (.int (Int32.ofInt 0)), none]) (by rw [(by decide +kernel : (Int32.ofInt 1) + Int32.ofInt 6 = (Int32.ofInt 7))] <;> rfl) ?_
  refine x_goto (M := (M_law nm)) (tgt := 33) dL_law_2452 (by decide) ?_
  refine x_iload (M := (M_law nm)) dL_law_33 rfl ?_
  refine x_aload_n (M := (M_law nm)) dL_law_35 rfl ?_
  refine x_slen (M := (M_law nm)) dL_law_36 (by decide) hx ?_
  refine x_bipush (M := (M_law nm)) dL_law_37 ?_
  refine x_isub (M := (M_law nm)) dL_law_39 ?_
  refine x_icmp_gt (M := (M_law nm)) (tgt := 2455) dL_law_40 (by decide) (fun _ => ?_) (fun q => absurd q (by decide +kernel))
  refine x_iconst (M := (M_law nm)) dL_law_2455 ?_
  exact x_zret (M := (M_law nm)) dL_law_2456 rfl (by decide) rfl (Nat.le_of_ble_eq_true rfl) (Nat.le_of_ble_eq_true rfl)
set_option maxRecDepth 10000 in
theorem q257 {l : Launch} {E : EE} (hl : l.stackTraces = false) {h : HP} {a0 : Int32} (c0 : ¬ (a0.toInt < 0)) (c1 : ¬ (1 < a0.toInt)) (c2 : ¬ (a0.toInt = 0)) (o256 : ob h 32 = some (.inr (14, [.ref 33, .ref 162, .ref 166, .int (0 : Int32), .int (0 : Int32), .int (0 : Int32), .ref 167, .ref 170, .ref 173, .ref 177, .ref 193, .ref 208, .ref 222, .ref 238, .ref 252, .ref 274, .ref 275, .ref 276, .int (0 : Int32)]))) : en_C l E M_X11_fault 0 0 0 [.ref 32, .int a0] h (pR (some (.int (Int32.ofInt 0))) h) := by
  refine en_mk m_X11_fault rfl hl (Nat.le_of_ble_eq_true rfl) ?_
  refine x_iload_n (M := M_X11_fault) dX11_fault_0 rfl ?_
  refine x_if_lt (M := M_X11_fault) (tgt := 9) dX11_fault_1 (by decide) (fun q => absurd ((bi_lt rfl (by decide +kernel)).mp q) (by omega : ¬ (a0.toInt < 0))) (fun _ => ?_)
  refine x_iload_n (M := M_X11_fault) dX11_fault_4 rfl ?_
  refine x_iconst (M := M_X11_fault) dX11_fault_5 ?_
  refine x_icmp_le (M := M_X11_fault) (tgt := 17) dX11_fault_6 (by decide) (fun _ => ?_) (fun q => absurd ((bi_le rfl (by decide +kernel)).mpr (by omega : (a0.toInt ≤ 1 : Prop))) q)
  refine x_iload_n (M := M_X11_fault) dX11_fault_17 rfl ?_
  refine x_if_ne (M := M_X11_fault) (tgt := 28) dX11_fault_18 (by decide) (fun _ => ?_) (fun q => absurd ((bi_eq rfl (by decide +kernel)).mp q) (by omega : ¬ (a0.toInt = 0)))
  refine x_aload_n (M := M_X11_fault) dX11_fault_28 rfl ?_
  refine x_getf (M := M_X11_fault) (ci := 14) (C := RX11) (T := TX11) (N := 19) (ty := tyX11) cl14 dX11_fault_29 o256 5 (by decide) t_568 (v := .int (0 : Int32)) rfl ?_
  refine x_top (M := M_X11_fault) (y := (Int32.ofInt 0)) (by decide +kernel) ?_
  exact x_iret (M := M_X11_fault) dX11_fault_32 rfl ⟨rfl, rfl⟩ (Nat.le_of_ble_eq_true rfl) (Nat.le_of_ble_eq_true rfl)
set_option maxRecDepth 10000 in
theorem q268 {l : Launch} {E : EE} (hl : l.stackTraces = false) {h : HP} {a0 : Int32} (c0 : ¬ (a0.toInt < 0)) (c1 : ¬ (1 < a0.toInt)) (c2 : ¬ (a0.toInt = 0)) (o258 : ob h 32 = some (.inr (14, [.ref 33, .ref 162, .ref 166, .int (0 : Int32), .int (0 : Int32), .int (0 : Int32), .ref 167, .ref 170, .ref 173, .ref 177, .ref 193, .ref 208, .ref 222, .ref 238, .ref 252, .ref 274, .ref 275, .ref 276, .int (0 : Int32)]))) (o263 : ob h 359 = some (.inl (1, 1, .inr (.inl (fun _ => 0))))) : en_C l E M_L_fault 1 0 0 [.ref 32, .int a0, .ref 359] h (pF (some (.int (Int32.ofInt 0))) [359] h (fun h' => ob h' 359 = some (.inl (1, 1, .inr (.inl (fun _ => 0)))) ∧ True)) := by
  refine en_mkW m_L_fault rfl hl (Nat.le_of_ble_eq_true rfl) ?_
  refine x_aload_n (M := M_L_fault) dL_fault_0 rfl ?_
  refine x_iconst (M := M_L_fault) dL_fault_1 ?_
  refine x_aload_n (M := M_L_fault) dL_fault_2 rfl ?_
  refine x_iload_n (M := M_L_fault) dL_fault_3 rfl ?_
  refine x_callVH (M := M_L_fault) (M' := M_X11_fault) rfl dL_fault_4 m_X11_fault t_1036 t_1037 t_1038 o258 rfl [.int a0] rfl rfl (Nat.le_of_ble_eq_true rfl) (q257 hl c0 c1 c2 o258) (Nat.le_of_ble_eq_true rfl) (Nat.le_of_ble_eq_true rfl) (Nat.le_of_ble_eq_true rfl) (fun N h' hp => nomatch hp.1) (fun v h' hp => ?_)
  obtain ⟨e262, rfl⟩ := hp
  cases e262
  refine x_i2l (M := M_L_fault) dL_fault_7 ?_
  refine x_norm (M := M_L_fault) (st' := [.long (Int64.ofInt 0), .int (Int32.ofInt 0), .ref 359]) rfl (vj_cons (by decide +kernel : ((Int32.ofInt 0).toInt64) = (Int64.ofInt 0)) rfl) rfl rfl rfl ?_
  refine y_last (M := M_L_fault) (k := 0) dL_fault_8 o263 (vp_inD (by decide +kernel)) (by decide +kernel) (fun h264 w265 f266 => ?_)
  have w267 : ob h264 359 = some (.inl (1, 1, .inr (.inl (fun _ => 0)))) := by rw [w265, uq_z (k := 0)]
  refine x_goto (M := M_L_fault) (tgt := 15) dL_fault_9 (by decide) ?_
  refine x_iconst (M := M_L_fault) dL_fault_15 ?_
  exact x_iret (M := M_L_fault) dL_fault_16 rfl ⟨rfl, (fr_tr f266 (by decide) fr_rf), ⟨w267, trivial⟩⟩ (Nat.le_of_ble_eq_true rfl) (Nat.le_of_ble_eq_true rfl)
set_option maxRecDepth 10000 in
theorem q279 {l : Launch} {E : EE} (hl : l.stackTraces = false) {h : HP} {a0 : Int32} (c0 : ¬ (a0.toInt < 0)) (c1 : ¬ (1 < a0.toInt)) (c2 : ¬ (a0.toInt = 0)) : en_C l E M_X12_in 0 0 0 [.long (a0.toInt64), .long (Int64.ofInt 0), .long (Int64.ofInt 1)] h (pR (some (.int (Int32.ofInt 1))) h) := by
  refine en_mk m_X12_in rfl hl (Nat.le_of_ble_eq_true rfl) ?_
  refine x_lload_n (M := M_X12_in) dX12_in_0 rfl ?_
  refine x_lload_n (M := M_X12_in) dX12_in_1 rfl ?_
  refine x_lcmp (M := M_X12_in) dX12_in_2 ?_
  refine x_if_lt (M := M_X12_in) (tgt := 17) dX12_in_3 (by decide) (fun q => absurd ((bc_lt (i_i2l rfl) (by decide +kernel)).mp q) (by omega : ¬ (a0.toInt < 0))) (fun _ => ?_)
  refine x_lload_n (M := M_X12_in) dX12_in_6 rfl ?_
  refine x_lload (M := M_X12_in) dX12_in_7 rfl ?_
  refine x_lcmp (M := M_X12_in) dX12_in_9 ?_
  refine x_if_gt (M := M_X12_in) (tgt := 17) dX12_in_10 (by decide) (fun q => absurd ((bc_gt (i_i2l rfl) (by decide +kernel)).mp q) (by omega : ¬ (1 < a0.toInt))) (fun _ => ?_)
  refine x_iconst (M := M_X12_in) dX12_in_13 ?_
  refine x_goto (M := M_X12_in) (tgt := 18) dX12_in_14 (by decide) ?_
  exact x_zret (M := M_X12_in) dX12_in_18 rfl (by decide) ⟨rfl, rfl⟩ (Nat.le_of_ble_eq_true rfl) (Nat.le_of_ble_eq_true rfl)
set_option maxRecDepth 10000 in
theorem q284 {l : Launch} {E : EE} (hl : l.stackTraces = false) {h : HP} {a0 : Int32} {dg : Int32} (c0 : ¬ (a0.toInt < 0)) (c1 : ¬ (1 < a0.toInt)) (c2 : ¬ (a0.toInt = 0)) (o275 : ob h 277 = some (.inr (15, (RB dg)))) : en_C l E M_X12_fault 1 0 0 [.ref 277, .int a0] h (pF (some (.int (Int32.ofInt 0))) [277] h (fun h' => ob h' 277 = some (.inr (15, ((RB dg).set 0 (.int (Int32.ofInt 0))))) ∧ True)) := by
  refine en_mk m_X12_fault rfl hl (Nat.le_of_ble_eq_true rfl) ?_
  refine x_aload_n (M := M_X12_fault) dX12_fault_0 rfl ?_
  refine x_iconst (M := M_X12_fault) dX12_fault_1 ?_
  refine y_put (M := M_X12_fault) (ci := 15) (C := RX12) (T := TX12) (N := 135) (ty := tyX12) cl15 dX12_fault_2 o275 0 (by decide) t_2391 (Or.inl rfl) (Nat.le_of_ble_eq_true rfl) rfl (fun h276 w277 f278 => ?_)
  refine x_aload_n (M := M_X12_fault) dX12_fault_5 rfl ?_
  refine x_iload_n (M := M_X12_fault) dX12_fault_6 rfl ?_
  refine x_i2l (M := M_X12_fault) dX12_fault_7 ?_
  refine x_lconst (M := M_X12_fault) dX12_fault_8 ?_
  refine x_lconst (M := M_X12_fault) dX12_fault_9 ?_
  refine x_norm (M := M_X12_fault) (st' := [.long (Int64.ofInt 1), .long (Int64.ofInt 0), .long (a0.toInt64), .ref 277]) rfl (vj_cons (by decide +kernel : (Int64.ofNat ((1 : Fin 2) : Nat)) = (Int64.ofInt 1)) (vj_cons (by decide +kernel : (Int64.ofNat ((0 : Fin 2) : Nat)) = (Int64.ofInt 0)) rfl)) rfl rfl rfl ?_
  refine x_callSR (M := M_X12_fault) (M' := M_X12_in) rfl rfl dX12_fault_10 m_X12_in t_2818 t_2819 (q279 hl c0 c1 c2) rfl rfl (Nat.le_of_ble_eq_true rfl) (Nat.le_of_ble_eq_true rfl) (Nat.le_of_ble_eq_true rfl) (Nat.le_of_ble_eq_true rfl) ?_
  refine x_if_ne (M := M_X12_fault) (tgt := 20) dX12_fault_13 (by decide) (fun _ => ?_) (fun q => absurd q (by decide +kernel))
  refine x_iconst (M := M_X12_fault) dX12_fault_20 ?_
  refine x_iconst (M := M_X12_fault) dX12_fault_21 ?_
  refine y_callVR (M := M_X12_fault) (M' := M_X12_fails) rfl rfl dX12_fault_22 m_X12_fails t_2805 t_2807 s_157 (q241 hl w277) rfl rfl w277 rfl (Nat.le_of_ble_eq_true rfl) (Nat.le_of_ble_eq_true rfl) (Nat.le_of_ble_eq_true rfl) (Nat.le_of_ble_eq_true rfl) (fun h280 f281 w282 => ?_)
  obtain ⟨o283, -⟩ := w282
  refine x_if_eq (M := M_X12_fault) (tgt := 30) dX12_fault_25 (by decide) (fun _ => ?_) (fun q => absurd q (by decide +kernel))
  refine x_iload_n (M := M_X12_fault) dX12_fault_30 rfl ?_
  refine x_if_ne (M := M_X12_fault) (tgt := 41) dX12_fault_31 (by decide) (fun _ => ?_) (fun q => absurd ((bi_eq rfl (by decide +kernel)).mp q) (by omega : ¬ (a0.toInt = 0)))
  refine x_aload_n (M := M_X12_fault) dX12_fault_41 rfl ?_
  refine x_getf (M := M_X12_fault) (ci := 15) (C := RX12) (T := TX12) (N := 135) (ty := tyX12) cl15 dX12_fault_42 o283 8 (by decide) t_2399 (v := .int (0 : Int32)) rfl ?_
  refine x_top (M := M_X12_fault) (y := (Int32.ofInt 0)) (by decide +kernel) ?_
  exact x_iret (M := M_X12_fault) dX12_fault_45 rfl ⟨rfl, (fr_tr f281 (by decide) (fr_tr f278 (by decide) fr_rf)), ⟨o283, trivial⟩⟩ (Nat.le_of_ble_eq_true rfl) (Nat.le_of_ble_eq_true rfl)
set_option maxRecDepth 10000 in
theorem lc5_3 {l : Launch} {E : EE} (hl : l.stackTraces = false) (nm : String) {xs : Nat → Int32} (hx : E.2.2.2.2 0 = some (7, xs)) {h : HP} {a0 : Int32} {dg : Int32} (e2 : xs 2 = a0) (c0 : ¬ (a0.toInt < 0)) (c1 : ¬ (1 < a0.toInt)) (c2 : ¬ (a0.toInt = 0)) (o269 : ob h 32 = some (.inr (14, [.ref 33, .ref 162, .ref 166, .int (0 : Int32), .int (0 : Int32), .int (0 : Int32), .ref 167, .ref 170, .ref 173, .ref 177, .ref 193, .ref 208, .ref 222, .ref 238, .ref 252, .ref 274, .ref 275, .ref 276, .int (0 : Int32)]))) (o270 : ob h 359 = some (.inl (1, 1, .inr (.inl (fun _ => 0))))) (o285 : ob h 277 = some (.inr (15, (RB dg)))) : XX l E (M_law nm) 1312 342628 8074320 (fun o _ => o = .inl (some (.int 1))) 477 [some (.ref 0), some (.ref 32), some (.ref 277), some (.ref 359), some (.int (Int32.ofInt 1)), none, none, none] [] h 328 2463747 := by
  refine x_aload_n (M := (M_law nm)) dL_law_477 rfl ?_
  refine x_aload_n (M := (M_law nm)) dL_law_478 rfl ?_
  refine x_iload (M := (M_law nm)) dL_law_479 rfl ?_
  refine x_iconst (M := (M_law nm)) dL_law_481 ?_
  refine x_iadd (M := (M_law nm)) dL_law_482 ?_
  refine x_sald (M := (M_law nm)) dL_law_483 (by decide) hx (vp_inD (by decide +kernel)) ?_
  refine x_top (M := (M_law nm)) (y := a0) ((congrArg xs (by decide +kernel : ((Int32.ofInt 1) + (Int32.ofInt 1)).toNatClampNeg = 2)).trans e2) ?_
  refine x_aload_n (M := (M_law nm)) dL_law_484 rfl ?_
  refine y_callSW (M := (M_law nm)) (M' := M_L_fault) rfl rfl dL_law_485 m_L_fault t_1033 t_1034 (q268 hl c0 c1 c2 o269 o270) rfl rfl (Nat.le_of_ble_eq_true rfl) (Nat.le_of_ble_eq_true rfl) (Nat.le_of_ble_eq_true rfl) (Nat.le_of_ble_eq_true rfl) (fun h271 f272 w273 => ?_)
  obtain ⟨o274, -⟩ := w273
  refine x_istore (M := (M_law nm)) dL_law_488 (Nat.le_of_ble_eq_true rfl) rfl ?_
  refine x_aload_n (M := (M_law nm)) dL_law_490 rfl ?_
  refine x_aload_n (M := (M_law nm)) dL_law_491 rfl ?_
  refine x_iload (M := (M_law nm)) dL_law_492 rfl ?_
  refine x_iconst (M := (M_law nm)) dL_law_494 ?_
  refine x_iadd (M := (M_law nm)) dL_law_495 ?_
  refine x_sald (M := (M_law nm)) dL_law_496 (by decide) hx (vp_inD (by decide +kernel)) ?_
  refine x_top (M := (M_law nm)) (y := a0) ((congrArg xs (by decide +kernel : ((Int32.ofInt 1) + (Int32.ofInt 1)).toNatClampNeg = 2)).trans e2) ?_
  have o286 := (f272 277 _ (by decide) o285)
  refine y_callVR (M := (M_law nm)) (M' := M_X12_fault) rfl rfl dL_law_497 m_X12_fault t_2825 t_2826 t_2827 (q284 hl c0 c1 c2 o286) rfl rfl o286 rfl (Nat.le_of_ble_eq_true rfl) (Nat.le_of_ble_eq_true rfl) (Nat.le_of_ble_eq_true rfl) (Nat.le_of_ble_eq_true rfl) (fun h287 f288 w289 => ?_)
  obtain ⟨o290, -⟩ := w289
  refine x_istore (M := (M_law nm)) dL_law_500 (Nat.le_of_ble_eq_true rfl) rfl ?_
  refine x_aload_n (M := (M_law nm)) dL_law_502 rfl ?_
  refine x_callVR (M := (M_law nm)) (M' := M_X12_thrown) rfl rfl dL_law_503 m_X12_thrown t_2797 t_2798 t_2799 (q254 hl o290) rfl rfl o290 rfl (Nat.le_of_ble_eq_true rfl) (Nat.le_of_ble_eq_true rfl) (Nat.le_of_ble_eq_true rfl) (Nat.le_of_ble_eq_true rfl) ?_
  refine x_iload (M := (M_law nm)) dL_law_506 rfl ?_
  refine x_icmp_eq (M := (M_law nm)) (tgt := 513) dL_law_508 (by decide) (fun _ => ?_) (fun q => absurd q (by decide +kernel))
  refine x_iload (M := (M_law nm)) dL_law_513 rfl ?_
  refine x_if_ne (M := (M_law nm)) (tgt := 530) dL_law_515 (by decide) (fun q => absurd q (by decide +kernel)) (fun _ => ?_)
  refine x_aload_n (M := (M_law nm)) dL_law_518 rfl ?_
  refine x_iconst (M := (M_law nm)) dL_law_519 ?_
  have o291 := (f288 359 _ (by decide) o274)
  refine x_lald (M := (M_law nm)) dL_law_520 o291 (vp_inD (by decide +kernel)) ?_
  refine x_topl (M := (M_law nm)) (y := (Int64.ofInt 0)) (by decide +kernel) ?_
  refine x_iload (M := (M_law nm)) dL_law_521 rfl ?_
  refine x_i2l (M := (M_law nm)) dL_law_523 ?_
  refine x_lcmp (M := (M_law nm)) dL_law_524 ?_
  refine x_if_eq (M := (M_law nm)) (tgt := 530) dL_law_525 (by decide) (fun _ => ?_) (fun q => absurd q (by decide +kernel))
  refine x_goto (M := (M_law nm)) (tgt := 2449) dL_law_530 (by decide) ?_
  refine x_iinc (M := (M_law nm)) dL_law_2449 rfl (Nat.le_of_ble_eq_true rfl) rfl ?_
  refine x_lvs (M := (M_law nm)) (lv' := [some (.ref 0), some (.ref 32), some (.ref 277), some (.ref 359), some (.int (Int32.ofInt 7)), some (.int (Int32.ofInt 0)), some (.int (Int32.ofInt 0)), none]) (by rw [(by decide +kernel : (Int32.ofInt 1) + Int32.ofInt 6 = (Int32.ofInt 7))] <;> rfl) ?_
  refine x_goto (M := (M_law nm)) (tgt := 33) dL_law_2452 (by decide) ?_
  refine x_iload (M := (M_law nm)) dL_law_33 rfl ?_
  refine x_aload_n (M := (M_law nm)) dL_law_35 rfl ?_
  refine x_slen (M := (M_law nm)) dL_law_36 (by decide) hx ?_
  refine x_bipush (M := (M_law nm)) dL_law_37 ?_
  refine x_isub (M := (M_law nm)) dL_law_39 ?_
  refine x_icmp_gt (M := (M_law nm)) (tgt := 2455) dL_law_40 (by decide) (fun _ => ?_) (fun q => absurd q (by decide +kernel))
  refine x_iconst (M := (M_law nm)) dL_law_2455 ?_
  exact x_zret (M := (M_law nm)) dL_law_2456 rfl (by decide) rfl (Nat.le_of_ble_eq_true rfl) (Nat.le_of_ble_eq_true rfl)
theorem lop5 {l : Launch} {E : EE} (hl : l.stackTraces = false) (nm : String) {xs : Nat → Int32} (hx : E.2.2.2.2 0 = some (7, xs)) (dg : Int32) : XX l E (M_law nm) 1312 342628 8074320 (fun o _ => o = .inl (some (.int 1))) 477 [some (.ref 0), some (.ref 32), some (.ref 277), some (.ref 359), some (.int (Int32.ofInt 1)), none, none, none] [] (HH dg) 328 2463747 := by
  obtain ⟨a0, e2⟩ : ∃ a : Int32, xs 2 = a := ⟨_, rfl⟩
  obtain ⟨a1, e3⟩ : ∃ a : Int32, xs 3 = a := ⟨_, rfl⟩
  obtain ⟨a2, e4⟩ : ∃ a : Int32, xs 4 = a := ⟨_, rfl⟩
  obtain ⟨a3, e5⟩ : ∃ a : Int32, xs 5 = a := ⟨_, rfl⟩
  obtain ⟨a4, e6⟩ : ∃ a : Int32, xs 6 = a := ⟨_, rfl⟩
  by_cases c0 : a0.toInt < 0
  · exact lc5_0 hl nm hx e2 c0 (o_32 dg) (o_277b dg)
  · by_cases c1 : 1 < a0.toInt
    · exact lc5_1 hl nm hx e2 c0 c1 (o_32 dg) (o_277b dg)
    · by_cases c2 : a0.toInt = 0
      · exact lc5_2 hl nm hx e2 c0 c1 c2 (o_32 dg) (o_359 dg) (o_277b dg)
      · exact lc5_3 hl nm hx e2 c0 c1 c2 (o_32 dg) (o_359 dg) (o_277b dg)
set_option maxRecDepth 10000 in
theorem q293 {l : Launch} {E : EE} (hl : l.stackTraces = false) {h : HP} {a0 : Int32} (c0 : a0.toInt < 0) : en_C l E M_X11_place 6 1 6 [.ref 32, .int a0] h (pT "java/lang/IndexOutOfBoundsException" [] h (fun _ => True)) := by
  refine en_mk m_X11_place rfl hl (Nat.le_of_ble_eq_true rfl) ?_
  refine x_iload_n (M := M_X11_place) dX11_place_0 rfl ?_
  refine x_if_lt (M := M_X11_place) (tgt := 10) dX11_place_1 (by decide) (fun _ => ?_) (fun q => absurd ((bi_lt rfl (by decide +kernel)).mpr (by omega : (a0.toInt < 0 : Prop))) q)
  exact x_throw (M := M_X11_place) (names := en_nm) rfl dX11_place_10 dX11_place_13 dX11_place_14 dX11_place_17 (by decide +kernel) en_nm_ok (Or.inl t_748) (Or.inl t_22) (at_X11_IndexOutOfBoundsException_139) (Nat.le_of_ble_eq_true rfl) (Nat.le_of_ble_eq_true rfl) (Nat.le_of_ble_eq_true rfl) (Nat.le_of_ble_eq_true rfl) (fun n9 => ⟨rfl, (fr_tr (fr_app (List.replicate n9 none)) (fun _ h => nomatch h) fr_rf), trivial⟩)
set_option maxRecDepth 10000 in
theorem q298 {l : Launch} {E : EE} (hl : l.stackTraces = false) {h : HP} {a0 : Int32} (c0 : a0.toInt < 0) (o294 : ob h 32 = some (.inr (14, [.ref 33, .ref 162, .ref 166, .int (0 : Int32), .int (0 : Int32), .int (0 : Int32), .ref 167, .ref 170, .ref 173, .ref 177, .ref 193, .ref 208, .ref 222, .ref 238, .ref 252, .ref 274, .ref 275, .ref 276, .int (0 : Int32)]))) : en_C l E M_L_place 7 1 6 [.ref 32, .int a0, .ref 359] h (pF (some (.int (Int32.ofInt 1))) [] h (fun _ => True)) := by
  refine en_mkW m_L_place rfl hl (Nat.le_of_ble_eq_true rfl) ?_
  refine x_aload_n (M := M_L_place) dL_place_0 rfl ?_
  refine x_iconst (M := M_L_place) dL_place_1 ?_
  refine x_aload_n (M := M_L_place) dL_place_2 rfl ?_
  refine x_iload_n (M := M_L_place) dL_place_3 rfl ?_
  refine y_callVHX (M := M_L_place) (M' := M_X11_place) (i9 := 3) (nx := 13) rfl dL_place_4 m_X11_place t_1365 t_1366 t_1367 o294 rfl (q293 hl c0) rfl rfl (Nat.le_of_ble_eq_true rfl) (Nat.le_of_ble_eq_true rfl) (Nat.le_of_ble_eq_true rfl) (Nat.le_of_ble_eq_true rfl) (en_hdn (k0 := 3) [] [] rfl (fun _ h => nomatch h) (by decide +kernel) (by decide) t_739 n_750 dL_place_12) (by decide) rfl (fun h295 f296 w297 => ?_)
  refine x_iconst (M := M_L_place) dL_place_13 ?_
  exact x_iret (M := M_L_place) dL_place_14 rfl ⟨rfl, (fr_tr f296 (fun _ h => nomatch h) fr_rf), trivial⟩ (Nat.le_of_ble_eq_true rfl) (Nat.le_of_ble_eq_true rfl)
set_option maxRecDepth 10000 in
theorem q307 {l : Launch} {E : EE} (hl : l.stackTraces = false) {h : HP} {a0 : Int32} (c0 : a0.toInt < 0) : en_C l E M_X12_in 0 0 0 [.long (a0.toInt64), .long (Int64.ofInt 0), .long (Int64.ofInt 6)] h (pR (some (.int (Int32.ofInt 0))) h) := by
  refine en_mk m_X12_in rfl hl (Nat.le_of_ble_eq_true rfl) ?_
  refine x_lload_n (M := M_X12_in) dX12_in_0 rfl ?_
  refine x_lload_n (M := M_X12_in) dX12_in_1 rfl ?_
  refine x_lcmp (M := M_X12_in) dX12_in_2 ?_
  refine x_if_lt (M := M_X12_in) (tgt := 17) dX12_in_3 (by decide) (fun _ => ?_) (fun q => absurd ((bc_lt (i_i2l rfl) (by decide +kernel)).mpr (by omega : (a0.toInt < 0 : Prop))) q)
  refine x_iconst (M := M_X12_in) dX12_in_17 ?_
  exact x_zret (M := M_X12_in) dX12_in_18 rfl (by decide) ⟨rfl, rfl⟩ (Nat.le_of_ble_eq_true rfl) (Nat.le_of_ble_eq_true rfl)
set_option maxRecDepth 10000 in
theorem q312 {l : Launch} {E : EE} (hl : l.stackTraces = false) {h : HP} {a0 : Int32} {dg : Int32} (c0 : a0.toInt < 0) (o303 : ob h 277 = some (.inr (15, (RB dg)))) : en_C l E M_X12_place 1 0 0 [.ref 277, .int a0] h (pF (some (.int (Int32.ofInt 0))) [277] h (fun h' => ob h' 277 = some (.inr (15, ((RB dg).set 0 (.int (Int32.ofInt 1))))) ∧ True)) := by
  refine en_mk m_X12_place rfl hl (Nat.le_of_ble_eq_true rfl) ?_
  refine x_aload_n (M := M_X12_place) dX12_place_0 rfl ?_
  refine x_iconst (M := M_X12_place) dX12_place_1 ?_
  refine y_put (M := M_X12_place) (ci := 15) (C := RX12) (T := TX12) (N := 135) (ty := tyX12) cl15 dX12_place_2 o303 0 (by decide) t_2391 (Or.inl rfl) (Nat.le_of_ble_eq_true rfl) rfl (fun h304 w305 f306 => ?_)
  refine x_aload_n (M := M_X12_place) dX12_place_5 rfl ?_
  refine x_iload_n (M := M_X12_place) dX12_place_6 rfl ?_
  refine x_i2l (M := M_X12_place) dX12_place_7 ?_
  refine x_lconst (M := M_X12_place) dX12_place_8 ?_
  refine x_ldc2 (M := M_X12_place) dX12_place_9 t_3341 ?_
  refine x_norm (M := M_X12_place) (st' := [.long (Int64.ofInt 6), .long (Int64.ofInt 0), .long (a0.toInt64), .ref 277]) rfl (vj_cons (by decide +kernel : (6 : Int64) = (Int64.ofInt 6)) (vj_cons (by decide +kernel : (Int64.ofNat ((0 : Fin 2) : Nat)) = (Int64.ofInt 0)) rfl)) rfl rfl rfl ?_
  refine x_callSR (M := M_X12_place) (M' := M_X12_in) rfl rfl dX12_place_12 m_X12_in t_2818 t_2819 (q307 hl c0) rfl rfl (Nat.le_of_ble_eq_true rfl) (Nat.le_of_ble_eq_true rfl) (Nat.le_of_ble_eq_true rfl) (Nat.le_of_ble_eq_true rfl) ?_
  refine x_if_ne (M := M_X12_place) (tgt := 22) dX12_place_15 (by decide) (fun q => absurd q (by decide +kernel)) (fun _ => ?_)
  refine x_iconst (M := M_X12_place) dX12_place_18 ?_
  refine x_goto (M := M_X12_place) (tgt := 23) dX12_place_19 (by decide) ?_
  refine x_iconst (M := M_X12_place) dX12_place_23 ?_
  refine y_callVR (M := M_X12_place) (M' := M_X12_fails) rfl rfl dX12_place_24 m_X12_fails t_2805 t_2807 s_157 (q22 hl w305) rfl rfl w305 rfl (Nat.le_of_ble_eq_true rfl) (Nat.le_of_ble_eq_true rfl) (Nat.le_of_ble_eq_true rfl) (Nat.le_of_ble_eq_true rfl) (fun h308 f309 w310 => ?_)
  obtain ⟨o311, -⟩ := w310
  refine x_if_eq (M := M_X12_place) (tgt := 32) dX12_place_27 (by decide) (fun q => absurd q (by decide +kernel)) (fun _ => ?_)
  refine x_iconst (M := M_X12_place) dX12_place_30 ?_
  exact x_iret (M := M_X12_place) dX12_place_31 rfl ⟨rfl, (fr_tr f309 (by decide) (fr_tr f306 (by decide) fr_rf)), ⟨o311, trivial⟩⟩ (Nat.le_of_ble_eq_true rfl) (Nat.le_of_ble_eq_true rfl)
set_option maxRecDepth 10000 in
theorem lc13_0 {l : Launch} {E : EE} (hl : l.stackTraces = false) (nm : String) {xs : Nat → Int32} (hx : E.2.2.2.2 0 = some (7, xs)) {h : HP} {a0 : Int32} {dg : Int32} (e2 : xs 2 = a0) (c0 : a0.toInt < 0) (o299 : ob h 32 = some (.inr (14, [.ref 33, .ref 162, .ref 166, .int (0 : Int32), .int (0 : Int32), .int (0 : Int32), .ref 167, .ref 170, .ref 173, .ref 177, .ref 193, .ref 208, .ref 222, .ref 238, .ref 252, .ref 274, .ref 275, .ref 276, .int (0 : Int32)]))) (o313 : ob h 277 = some (.inr (15, (RB dg)))) : XX l E (M_law nm) 1312 342628 8074320 (fun o _ => o = .inl (some (.int 1))) 975 [some (.ref 0), some (.ref 32), some (.ref 277), some (.ref 359), some (.int (Int32.ofInt 1)), none, none, none] [] h 328 2463747 := by
  refine x_aload_n (M := (M_law nm)) dL_law_975 rfl ?_
  refine x_aload_n (M := (M_law nm)) dL_law_976 rfl ?_
  refine x_iload (M := (M_law nm)) dL_law_977 rfl ?_
  refine x_iconst (M := (M_law nm)) dL_law_979 ?_
  refine x_iadd (M := (M_law nm)) dL_law_980 ?_
  refine x_sald (M := (M_law nm)) dL_law_981 (by decide) hx (vp_inD (by decide +kernel)) ?_
  refine x_top (M := (M_law nm)) (y := a0) ((congrArg xs (by decide +kernel : ((Int32.ofInt 1) + (Int32.ofInt 1)).toNatClampNeg = 2)).trans e2) ?_
  refine x_aload_n (M := (M_law nm)) dL_law_982 rfl ?_
  refine y_callSW (M := (M_law nm)) (M' := M_L_place) rfl rfl dL_law_983 m_L_place t_1362 t_1363 (q298 hl c0 o299) rfl rfl (Nat.le_of_ble_eq_true rfl) (Nat.le_of_ble_eq_true rfl) (Nat.le_of_ble_eq_true rfl) (Nat.le_of_ble_eq_true rfl) (fun h300 f301 w302 => ?_)
  refine x_istore (M := (M_law nm)) dL_law_986 (Nat.le_of_ble_eq_true rfl) rfl ?_
  refine x_aload_n (M := (M_law nm)) dL_law_988 rfl ?_
  refine x_aload_n (M := (M_law nm)) dL_law_989 rfl ?_
  refine x_iload (M := (M_law nm)) dL_law_990 rfl ?_
  refine x_iconst (M := (M_law nm)) dL_law_992 ?_
  refine x_iadd (M := (M_law nm)) dL_law_993 ?_
  refine x_sald (M := (M_law nm)) dL_law_994 (by decide) hx (vp_inD (by decide +kernel)) ?_
  refine x_top (M := (M_law nm)) (y := a0) ((congrArg xs (by decide +kernel : ((Int32.ofInt 1) + (Int32.ofInt 1)).toNatClampNeg = 2)).trans e2) ?_
  have o314 := (f301 277 _ (by decide) o313)
  refine y_callVR (M := (M_law nm)) (M' := M_X12_place) rfl rfl dL_law_995 m_X12_place t_3337 t_3338 t_3339 (q312 hl c0 o314) rfl rfl o314 rfl (Nat.le_of_ble_eq_true rfl) (Nat.le_of_ble_eq_true rfl) (Nat.le_of_ble_eq_true rfl) (Nat.le_of_ble_eq_true rfl) (fun h315 f316 w317 => ?_)
  obtain ⟨o318, -⟩ := w317
  refine x_istore (M := (M_law nm)) dL_law_998 (Nat.le_of_ble_eq_true rfl) rfl ?_
  refine x_aload_n (M := (M_law nm)) dL_law_1000 rfl ?_
  refine x_callVR (M := (M_law nm)) (M' := M_X12_thrown) rfl rfl dL_law_1001 m_X12_thrown t_2797 t_2798 t_2799 (q35 hl o318) rfl rfl o318 rfl (Nat.le_of_ble_eq_true rfl) (Nat.le_of_ble_eq_true rfl) (Nat.le_of_ble_eq_true rfl) (Nat.le_of_ble_eq_true rfl) ?_
  refine x_iload (M := (M_law nm)) dL_law_1004 rfl ?_
  refine x_icmp_eq (M := (M_law nm)) (tgt := 1011) dL_law_1006 (by decide) (fun _ => ?_) (fun q => absurd q (by decide +kernel))
  refine x_iload (M := (M_law nm)) dL_law_1011 rfl ?_
  refine x_if_ne (M := (M_law nm)) (tgt := 1028) dL_law_1013 (by decide) (fun _ => ?_) (fun q => absurd q (by decide +kernel))
  refine x_goto (M := (M_law nm)) (tgt := 2449) dL_law_1028 (by decide) ?_
  refine x_iinc (M := (M_law nm)) dL_law_2449 rfl (Nat.le_of_ble_eq_true rfl) rfl ?_
  refine x_lvs (M := (M_law nm)) (lv' := [some (.ref 0), some (.ref 32), some (.ref 277), some (.ref 359), some (.int (Int32.ofInt 7)), some (.int (Int32.ofInt 1)), some (.int (Int32.ofInt 0)), none]) (by rw [(by decide +kernel : (Int32.ofInt 1) + Int32.ofInt 6 = (Int32.ofInt 7))] <;> rfl) ?_
  refine x_goto (M := (M_law nm)) (tgt := 33) dL_law_2452 (by decide) ?_
  refine x_iload (M := (M_law nm)) dL_law_33 rfl ?_
  refine x_aload_n (M := (M_law nm)) dL_law_35 rfl ?_
  refine x_slen (M := (M_law nm)) dL_law_36 (by decide) hx ?_
  refine x_bipush (M := (M_law nm)) dL_law_37 ?_
  refine x_isub (M := (M_law nm)) dL_law_39 ?_
  refine x_icmp_gt (M := (M_law nm)) (tgt := 2455) dL_law_40 (by decide) (fun _ => ?_) (fun q => absurd q (by decide +kernel))
  refine x_iconst (M := (M_law nm)) dL_law_2455 ?_
  exact x_zret (M := (M_law nm)) dL_law_2456 rfl (by decide) rfl (Nat.le_of_ble_eq_true rfl) (Nat.le_of_ble_eq_true rfl)
set_option maxRecDepth 10000 in
theorem q322 {l : Launch} {E : EE} (hl : l.stackTraces = false) {h : HP} {a0 : Int32} (c0 : ¬ (a0.toInt < 0)) (c1 : a0.toInt < 7) (o319 : ob h 32 = some (.inr (14, [.ref 33, .ref 162, .ref 166, .int (0 : Int32), .int (0 : Int32), .int (0 : Int32), .ref 167, .ref 170, .ref 173, .ref 177, .ref 193, .ref 208, .ref 222, .ref 238, .ref 252, .ref 274, .ref 275, .ref 276, .int (0 : Int32)]))) (o320 : ob h 177 = some (.inr (4, [.ref 178, .ref 179, .ref 185, .ref 186, .ref 187, .ref 188, .ref 189, .int (0 : Int32), .ref 190, .ref 191, .ref 192]))) (o321 : ob h 178 = some (.inl (0, 7, .inl (fun j => if j < 7 then (Int32.ofInt (-1)) else 0)))) : en_C l E M_X11_place 0 0 0 [.ref 32, .int a0] h (pR (some (.int (Int32.ofInt (-1)))) h) := by
  refine en_mk m_X11_place rfl hl (Nat.le_of_ble_eq_true rfl) ?_
  refine x_iload_n (M := M_X11_place) dX11_place_0 rfl ?_
  refine x_if_lt (M := M_X11_place) (tgt := 10) dX11_place_1 (by decide) (fun q => absurd ((bi_lt rfl (by decide +kernel)).mp q) (by omega : ¬ (a0.toInt < 0))) (fun _ => ?_)
  refine x_iload_n (M := M_X11_place) dX11_place_4 rfl ?_
  refine x_bipush (M := M_X11_place) dX11_place_5 ?_
  refine x_icmp_lt (M := M_X11_place) (tgt := 18) dX11_place_7 (by decide) (fun _ => ?_) (fun q => absurd ((bi_lt rfl (by decide +kernel)).mpr (by omega : (a0.toInt < 7 : Prop))) q)
  refine x_aload_n (M := M_X11_place) dX11_place_18 rfl ?_
  refine x_getf (M := M_X11_place) (ci := 14) (C := RX11) (T := TX11) (N := 19) (ty := tyX11) cl14 dX11_place_19 o319 9 (by decide) t_572 (v := .ref 177) rfl ?_
  refine x_getf (M := M_X11_place) (ci := 4) (C := RX1) (T := TX1) (N := 11) (ty := tyX1) cl4 dX11_place_22 o320 0 (by decide) t_285 (v := .ref 178) rfl ?_
  refine x_iload_n (M := M_X11_place) dX11_place_25 rfl ?_
  refine x_iald (M := M_X11_place) dX11_place_26 o321 (vp_in_s (by omega) (by omega)) ?_
  refine x_top (M := M_X11_place) (y := (Int32.ofInt (-1))) (if_pos (nc_lt (n := 7) (by omega) (by decide))) ?_
  exact x_iret (M := M_X11_place) dX11_place_27 rfl ⟨rfl, rfl⟩ (Nat.le_of_ble_eq_true rfl) (Nat.le_of_ble_eq_true rfl)
set_option maxRecDepth 10000 in
theorem q334 {l : Launch} {E : EE} (hl : l.stackTraces = false) {h : HP} {a0 : Int32} (c0 : ¬ (a0.toInt < 0)) (c1 : a0.toInt < 7) (o323 : ob h 32 = some (.inr (14, [.ref 33, .ref 162, .ref 166, .int (0 : Int32), .int (0 : Int32), .int (0 : Int32), .ref 167, .ref 170, .ref 173, .ref 177, .ref 193, .ref 208, .ref 222, .ref 238, .ref 252, .ref 274, .ref 275, .ref 276, .int (0 : Int32)]))) (o324 : ob h 177 = some (.inr (4, [.ref 178, .ref 179, .ref 185, .ref 186, .ref 187, .ref 188, .ref 189, .int (0 : Int32), .ref 190, .ref 191, .ref 192]))) (o325 : ob h 178 = some (.inl (0, 7, .inl (fun j => if j < 7 then (Int32.ofInt (-1)) else 0)))) (o330 : ob h 359 = some (.inl (1, 1, .inr (.inl (fun _ => 0))))) : en_C l E M_L_place 1 0 0 [.ref 32, .int a0, .ref 359] h (pF (some (.int (Int32.ofInt 0))) [359] h (fun h' => ob h' 359 = some (.inl (1, 1, .inr (.inl (vp_updL (fun _ => 0) 0 (Int64.ofInt (-1)))))) ∧ True)) := by
  refine en_mkW m_L_place rfl hl (Nat.le_of_ble_eq_true rfl) ?_
  refine x_aload_n (M := M_L_place) dL_place_0 rfl ?_
  refine x_iconst (M := M_L_place) dL_place_1 ?_
  refine x_aload_n (M := M_L_place) dL_place_2 rfl ?_
  refine x_iload_n (M := M_L_place) dL_place_3 rfl ?_
  refine x_callVH (M := M_L_place) (M' := M_X11_place) rfl dL_place_4 m_X11_place t_1365 t_1366 t_1367 o323 rfl [.int a0] rfl rfl (Nat.le_of_ble_eq_true rfl) (q322 hl c0 c1 o323 o324 o325) (Nat.le_of_ble_eq_true rfl) (Nat.le_of_ble_eq_true rfl) (Nat.le_of_ble_eq_true rfl) (fun N h' hp => nomatch hp.1) (fun v h' hp => ?_)
  obtain ⟨e329, rfl⟩ := hp
  cases e329
  refine x_i2l (M := M_L_place) dL_place_7 ?_
  refine x_norm (M := M_L_place) (st' := [.long (Int64.ofInt (-1)), .int (Int32.ofInt 0), .ref 359]) rfl (vj_cons (by decide +kernel : ((Int32.ofInt (-1)).toInt64) = (Int64.ofInt (-1))) rfl) rfl rfl rfl ?_
  refine y_last (M := M_L_place) (k := 0) dL_place_8 o330 (vp_inD (by decide +kernel)) (by decide +kernel) (fun h331 w332 f333 => ?_)
  refine x_goto (M := M_L_place) (tgt := 15) dL_place_9 (by decide) ?_
  refine x_iconst (M := M_L_place) dL_place_15 ?_
  exact x_iret (M := M_L_place) dL_place_16 rfl ⟨rfl, (fr_tr f333 (by decide) fr_rf), ⟨w332, trivial⟩⟩ (Nat.le_of_ble_eq_true rfl) (Nat.le_of_ble_eq_true rfl)
set_option maxRecDepth 10000 in
theorem q347 {l : Launch} {E : EE} (hl : l.stackTraces = false) {h : HP} {a0 : Int32} (c0 : ¬ (a0.toInt < 0)) (c1 : a0.toInt < 7) : en_C l E M_X12_in 0 0 0 [.long (a0.toInt64), .long (Int64.ofInt 0), .long (Int64.ofInt 6)] h (pR (some (.int (Int32.ofInt 1))) h) := by
  refine en_mk m_X12_in rfl hl (Nat.le_of_ble_eq_true rfl) ?_
  refine x_lload_n (M := M_X12_in) dX12_in_0 rfl ?_
  refine x_lload_n (M := M_X12_in) dX12_in_1 rfl ?_
  refine x_lcmp (M := M_X12_in) dX12_in_2 ?_
  refine x_if_lt (M := M_X12_in) (tgt := 17) dX12_in_3 (by decide) (fun q => absurd ((bc_lt (i_i2l rfl) (by decide +kernel)).mp q) (by omega : ¬ (a0.toInt < 0))) (fun _ => ?_)
  refine x_lload_n (M := M_X12_in) dX12_in_6 rfl ?_
  refine x_lload (M := M_X12_in) dX12_in_7 rfl ?_
  refine x_lcmp (M := M_X12_in) dX12_in_9 ?_
  refine x_if_gt (M := M_X12_in) (tgt := 17) dX12_in_10 (by decide) (fun q => absurd ((bc_gt (i_i2l rfl) (by decide +kernel)).mp q) (by omega : ¬ (6 < a0.toInt))) (fun _ => ?_)
  refine x_iconst (M := M_X12_in) dX12_in_13 ?_
  refine x_goto (M := M_X12_in) (tgt := 18) dX12_in_14 (by decide) ?_
  exact x_zret (M := M_X12_in) dX12_in_18 rfl (by decide) ⟨rfl, rfl⟩ (Nat.le_of_ble_eq_true rfl) (Nat.le_of_ble_eq_true rfl)
set_option maxRecDepth 10000 in
theorem q354 {l : Launch} {E : EE} (hl : l.stackTraces = false) {h : HP} {a0 : Int32} {dg : Int32} (c0 : ¬ (a0.toInt < 0)) (c1 : a0.toInt < 7) (o343 : ob h 277 = some (.inr (15, (RB dg)))) (o352 : ob h 285 = some (.inl (0, 7, .inl (fun j => if j < 7 then (Int32.ofInt (-1)) else 0)))) : en_C l E M_X12_place 1 0 0 [.ref 277, .int a0] h (pF (some (.int (Int32.ofInt (-1)))) [277] h (fun h' => ob h' 277 = some (.inr (15, ((RB dg).set 0 (.int (Int32.ofInt 0))))) ∧ True)) := by
  refine en_mk m_X12_place rfl hl (Nat.le_of_ble_eq_true rfl) ?_
  refine x_aload_n (M := M_X12_place) dX12_place_0 rfl ?_
  refine x_iconst (M := M_X12_place) dX12_place_1 ?_
  refine y_put (M := M_X12_place) (ci := 15) (C := RX12) (T := TX12) (N := 135) (ty := tyX12) cl15 dX12_place_2 o343 0 (by decide) t_2391 (Or.inl rfl) (Nat.le_of_ble_eq_true rfl) rfl (fun h344 w345 f346 => ?_)
  refine x_aload_n (M := M_X12_place) dX12_place_5 rfl ?_
  refine x_iload_n (M := M_X12_place) dX12_place_6 rfl ?_
  refine x_i2l (M := M_X12_place) dX12_place_7 ?_
  refine x_lconst (M := M_X12_place) dX12_place_8 ?_
  refine x_ldc2 (M := M_X12_place) dX12_place_9 t_3341 ?_
  refine x_norm (M := M_X12_place) (st' := [.long (Int64.ofInt 6), .long (Int64.ofInt 0), .long (a0.toInt64), .ref 277]) rfl (vj_cons (by decide +kernel : (6 : Int64) = (Int64.ofInt 6)) (vj_cons (by decide +kernel : (Int64.ofNat ((0 : Fin 2) : Nat)) = (Int64.ofInt 0)) rfl)) rfl rfl rfl ?_
  refine x_callSR (M := M_X12_place) (M' := M_X12_in) rfl rfl dX12_place_12 m_X12_in t_2818 t_2819 (q347 hl c0 c1) rfl rfl (Nat.le_of_ble_eq_true rfl) (Nat.le_of_ble_eq_true rfl) (Nat.le_of_ble_eq_true rfl) (Nat.le_of_ble_eq_true rfl) ?_
  refine x_if_ne (M := M_X12_place) (tgt := 22) dX12_place_15 (by decide) (fun _ => ?_) (fun q => absurd q (by decide +kernel))
  refine x_iconst (M := M_X12_place) dX12_place_22 ?_
  refine x_iconst (M := M_X12_place) dX12_place_23 ?_
  refine y_callVR (M := M_X12_place) (M' := M_X12_fails) rfl rfl dX12_place_24 m_X12_fails t_2805 t_2807 s_157 (q241 hl w345) rfl rfl w345 rfl (Nat.le_of_ble_eq_true rfl) (Nat.le_of_ble_eq_true rfl) (Nat.le_of_ble_eq_true rfl) (Nat.le_of_ble_eq_true rfl) (fun h348 f349 w350 => ?_)
  obtain ⟨o351, -⟩ := w350
  refine x_if_eq (M := M_X12_place) (tgt := 32) dX12_place_27 (by decide) (fun _ => ?_) (fun q => absurd q (by decide +kernel))
  refine x_aload_n (M := M_X12_place) dX12_place_32 rfl ?_
  refine x_getf (M := M_X12_place) (ci := 15) (C := RX12) (T := TX12) (N := 135) (ty := tyX12) cl15 dX12_place_33 o351 14 (by decide) t_2405 (v := .ref 285) rfl ?_
  refine x_iload_n (M := M_X12_place) dX12_place_36 rfl ?_
  have o353 := (f349 285 _ (by decide) (f346 285 _ (by decide) o352))
  refine x_iald (M := M_X12_place) dX12_place_37 o353 (vp_in_s (by omega) (by omega)) ?_
  refine x_top (M := M_X12_place) (y := (Int32.ofInt (-1))) (if_pos (nc_lt (n := 7) (by omega) (by decide))) ?_
  exact x_iret (M := M_X12_place) dX12_place_38 rfl ⟨rfl, (fr_tr f349 (by decide) (fr_tr f346 (by decide) fr_rf)), ⟨o351, trivial⟩⟩ (Nat.le_of_ble_eq_true rfl) (Nat.le_of_ble_eq_true rfl)
set_option maxRecDepth 10000 in
theorem lc13_1 {l : Launch} {E : EE} (hl : l.stackTraces = false) (nm : String) {xs : Nat → Int32} (hx : E.2.2.2.2 0 = some (7, xs)) {h : HP} {a0 : Int32} {dg : Int32} (e2 : xs 2 = a0) (c0 : ¬ (a0.toInt < 0)) (c1 : a0.toInt < 7) (o335 : ob h 32 = some (.inr (14, [.ref 33, .ref 162, .ref 166, .int (0 : Int32), .int (0 : Int32), .int (0 : Int32), .ref 167, .ref 170, .ref 173, .ref 177, .ref 193, .ref 208, .ref 222, .ref 238, .ref 252, .ref 274, .ref 275, .ref 276, .int (0 : Int32)]))) (o336 : ob h 177 = some (.inr (4, [.ref 178, .ref 179, .ref 185, .ref 186, .ref 187, .ref 188, .ref 189, .int (0 : Int32), .ref 190, .ref 191, .ref 192]))) (o337 : ob h 178 = some (.inl (0, 7, .inl (fun j => if j < 7 then (Int32.ofInt (-1)) else 0)))) (o338 : ob h 359 = some (.inl (1, 1, .inr (.inl (fun _ => 0))))) (o355 : ob h 277 = some (.inr (15, (RB dg)))) (o357 : ob h 285 = some (.inl (0, 7, .inl (fun j => if j < 7 then (Int32.ofInt (-1)) else 0)))) : XX l E (M_law nm) 1312 342628 8074320 (fun o _ => o = .inl (some (.int 1))) 975 [some (.ref 0), some (.ref 32), some (.ref 277), some (.ref 359), some (.int (Int32.ofInt 1)), none, none, none] [] h 328 2463747 := by
  refine x_aload_n (M := (M_law nm)) dL_law_975 rfl ?_
  refine x_aload_n (M := (M_law nm)) dL_law_976 rfl ?_
  refine x_iload (M := (M_law nm)) dL_law_977 rfl ?_
  refine x_iconst (M := (M_law nm)) dL_law_979 ?_
  refine x_iadd (M := (M_law nm)) dL_law_980 ?_
  refine x_sald (M := (M_law nm)) dL_law_981 (by decide) hx (vp_inD (by decide +kernel)) ?_
  refine x_top (M := (M_law nm)) (y := a0) ((congrArg xs (by decide +kernel : ((Int32.ofInt 1) + (Int32.ofInt 1)).toNatClampNeg = 2)).trans e2) ?_
  refine x_aload_n (M := (M_law nm)) dL_law_982 rfl ?_
  refine y_callSW (M := (M_law nm)) (M' := M_L_place) rfl rfl dL_law_983 m_L_place t_1362 t_1363 (q334 hl c0 c1 o335 o336 o337 o338) rfl rfl (Nat.le_of_ble_eq_true rfl) (Nat.le_of_ble_eq_true rfl) (Nat.le_of_ble_eq_true rfl) (Nat.le_of_ble_eq_true rfl) (fun h339 f340 w341 => ?_)
  obtain ⟨o342, -⟩ := w341
  refine x_istore (M := (M_law nm)) dL_law_986 (Nat.le_of_ble_eq_true rfl) rfl ?_
  refine x_aload_n (M := (M_law nm)) dL_law_988 rfl ?_
  refine x_aload_n (M := (M_law nm)) dL_law_989 rfl ?_
  refine x_iload (M := (M_law nm)) dL_law_990 rfl ?_
  refine x_iconst (M := (M_law nm)) dL_law_992 ?_
  refine x_iadd (M := (M_law nm)) dL_law_993 ?_
  refine x_sald (M := (M_law nm)) dL_law_994 (by decide) hx (vp_inD (by decide +kernel)) ?_
  refine x_top (M := (M_law nm)) (y := a0) ((congrArg xs (by decide +kernel : ((Int32.ofInt 1) + (Int32.ofInt 1)).toNatClampNeg = 2)).trans e2) ?_
  have o356 := (f340 277 _ (by decide) o355)
  have o358 := (f340 285 _ (by decide) o357)
  refine y_callVR (M := (M_law nm)) (M' := M_X12_place) rfl rfl dL_law_995 m_X12_place t_3337 t_3338 t_3339 (q354 hl c0 c1 o356 o358) rfl rfl o356 rfl (Nat.le_of_ble_eq_true rfl) (Nat.le_of_ble_eq_true rfl) (Nat.le_of_ble_eq_true rfl) (Nat.le_of_ble_eq_true rfl) (fun h359 f360 w361 => ?_)
  obtain ⟨o362, -⟩ := w361
  refine x_istore (M := (M_law nm)) dL_law_998 (Nat.le_of_ble_eq_true rfl) rfl ?_
  refine x_aload_n (M := (M_law nm)) dL_law_1000 rfl ?_
  refine x_callVR (M := (M_law nm)) (M' := M_X12_thrown) rfl rfl dL_law_1001 m_X12_thrown t_2797 t_2798 t_2799 (q254 hl o362) rfl rfl o362 rfl (Nat.le_of_ble_eq_true rfl) (Nat.le_of_ble_eq_true rfl) (Nat.le_of_ble_eq_true rfl) (Nat.le_of_ble_eq_true rfl) ?_
  refine x_iload (M := (M_law nm)) dL_law_1004 rfl ?_
  refine x_icmp_eq (M := (M_law nm)) (tgt := 1011) dL_law_1006 (by decide) (fun _ => ?_) (fun q => absurd q (by decide +kernel))
  refine x_iload (M := (M_law nm)) dL_law_1011 rfl ?_
  refine x_if_ne (M := (M_law nm)) (tgt := 1028) dL_law_1013 (by decide) (fun q => absurd q (by decide +kernel)) (fun _ => ?_)
  refine x_aload_n (M := (M_law nm)) dL_law_1016 rfl ?_
  refine x_iconst (M := (M_law nm)) dL_law_1017 ?_
  have o363 := (f360 359 _ (by decide) o342)
  refine x_lald (M := (M_law nm)) dL_law_1018 o363 (vp_inD (by decide +kernel)) ?_
  refine x_topl (M := (M_law nm)) (y := (Int64.ofInt (-1))) (by decide +kernel) ?_
  refine x_iload (M := (M_law nm)) dL_law_1019 rfl ?_
  refine x_i2l (M := (M_law nm)) dL_law_1021 ?_
  refine x_lcmp (M := (M_law nm)) dL_law_1022 ?_
  refine x_if_eq (M := (M_law nm)) (tgt := 1028) dL_law_1023 (by decide) (fun _ => ?_) (fun q => absurd q (by decide +kernel))
  refine x_goto (M := (M_law nm)) (tgt := 2449) dL_law_1028 (by decide) ?_
  refine x_iinc (M := (M_law nm)) dL_law_2449 rfl (Nat.le_of_ble_eq_true rfl) rfl ?_
  refine x_lvs (M := (M_law nm)) (lv' := [some (.ref 0), some (.ref 32), some (.ref 277), some (.ref 359), some (.int (Int32.ofInt 7)), some (.int (Int32.ofInt 0)), some (.int (Int32.ofInt (-1))), none]) (by rw [(by decide +kernel : (Int32.ofInt 1) + Int32.ofInt 6 = (Int32.ofInt 7))] <;> rfl) ?_
  refine x_goto (M := (M_law nm)) (tgt := 33) dL_law_2452 (by decide) ?_
  refine x_iload (M := (M_law nm)) dL_law_33 rfl ?_
  refine x_aload_n (M := (M_law nm)) dL_law_35 rfl ?_
  refine x_slen (M := (M_law nm)) dL_law_36 (by decide) hx ?_
  refine x_bipush (M := (M_law nm)) dL_law_37 ?_
  refine x_isub (M := (M_law nm)) dL_law_39 ?_
  refine x_icmp_gt (M := (M_law nm)) (tgt := 2455) dL_law_40 (by decide) (fun _ => ?_) (fun q => absurd q (by decide +kernel))
  refine x_iconst (M := (M_law nm)) dL_law_2455 ?_
  exact x_zret (M := (M_law nm)) dL_law_2456 rfl (by decide) rfl (Nat.le_of_ble_eq_true rfl) (Nat.le_of_ble_eq_true rfl)
set_option maxRecDepth 10000 in
theorem q365 {l : Launch} {E : EE} (hl : l.stackTraces = false) {h : HP} {a0 : Int32} (c0 : ¬ (a0.toInt < 0)) (c1 : ¬ (a0.toInt < 7)) : en_C l E M_X11_place 6 1 6 [.ref 32, .int a0] h (pT "java/lang/IndexOutOfBoundsException" [] h (fun _ => True)) := by
  refine en_mk m_X11_place rfl hl (Nat.le_of_ble_eq_true rfl) ?_
  refine x_iload_n (M := M_X11_place) dX11_place_0 rfl ?_
  refine x_if_lt (M := M_X11_place) (tgt := 10) dX11_place_1 (by decide) (fun q => absurd ((bi_lt rfl (by decide +kernel)).mp q) (by omega : ¬ (a0.toInt < 0))) (fun _ => ?_)
  refine x_iload_n (M := M_X11_place) dX11_place_4 rfl ?_
  refine x_bipush (M := M_X11_place) dX11_place_5 ?_
  refine x_icmp_lt (M := M_X11_place) (tgt := 18) dX11_place_7 (by decide) (fun q => absurd ((bi_lt rfl (by decide +kernel)).mp q) (by omega : ¬ (a0.toInt < 7))) (fun _ => ?_)
  exact x_throw (M := M_X11_place) (names := en_nm) rfl dX11_place_10 dX11_place_13 dX11_place_14 dX11_place_17 (by decide +kernel) en_nm_ok (Or.inl t_748) (Or.inl t_22) (at_X11_IndexOutOfBoundsException_139) (Nat.le_of_ble_eq_true rfl) (Nat.le_of_ble_eq_true rfl) (Nat.le_of_ble_eq_true rfl) (Nat.le_of_ble_eq_true rfl) (fun n9 => ⟨rfl, (fr_tr (fr_app (List.replicate n9 none)) (fun _ h => nomatch h) fr_rf), trivial⟩)
set_option maxRecDepth 10000 in
theorem q370 {l : Launch} {E : EE} (hl : l.stackTraces = false) {h : HP} {a0 : Int32} (c0 : ¬ (a0.toInt < 0)) (c1 : ¬ (a0.toInt < 7)) (o366 : ob h 32 = some (.inr (14, [.ref 33, .ref 162, .ref 166, .int (0 : Int32), .int (0 : Int32), .int (0 : Int32), .ref 167, .ref 170, .ref 173, .ref 177, .ref 193, .ref 208, .ref 222, .ref 238, .ref 252, .ref 274, .ref 275, .ref 276, .int (0 : Int32)]))) : en_C l E M_L_place 7 1 6 [.ref 32, .int a0, .ref 359] h (pF (some (.int (Int32.ofInt 1))) [] h (fun _ => True)) := by
  refine en_mkW m_L_place rfl hl (Nat.le_of_ble_eq_true rfl) ?_
  refine x_aload_n (M := M_L_place) dL_place_0 rfl ?_
  refine x_iconst (M := M_L_place) dL_place_1 ?_
  refine x_aload_n (M := M_L_place) dL_place_2 rfl ?_
  refine x_iload_n (M := M_L_place) dL_place_3 rfl ?_
  refine y_callVHX (M := M_L_place) (M' := M_X11_place) (i9 := 3) (nx := 13) rfl dL_place_4 m_X11_place t_1365 t_1366 t_1367 o366 rfl (q365 hl c0 c1) rfl rfl (Nat.le_of_ble_eq_true rfl) (Nat.le_of_ble_eq_true rfl) (Nat.le_of_ble_eq_true rfl) (Nat.le_of_ble_eq_true rfl) (en_hdn (k0 := 3) [] [] rfl (fun _ h => nomatch h) (by decide +kernel) (by decide) t_739 n_750 dL_place_12) (by decide) rfl (fun h367 f368 w369 => ?_)
  refine x_iconst (M := M_L_place) dL_place_13 ?_
  exact x_iret (M := M_L_place) dL_place_14 rfl ⟨rfl, (fr_tr f368 (fun _ h => nomatch h) fr_rf), trivial⟩ (Nat.le_of_ble_eq_true rfl) (Nat.le_of_ble_eq_true rfl)
set_option maxRecDepth 10000 in
theorem q379 {l : Launch} {E : EE} (hl : l.stackTraces = false) {h : HP} {a0 : Int32} (c0 : ¬ (a0.toInt < 0)) (c1 : ¬ (a0.toInt < 7)) : en_C l E M_X12_in 0 0 0 [.long (a0.toInt64), .long (Int64.ofInt 0), .long (Int64.ofInt 6)] h (pR (some (.int (Int32.ofInt 0))) h) := by
  refine en_mk m_X12_in rfl hl (Nat.le_of_ble_eq_true rfl) ?_
  refine x_lload_n (M := M_X12_in) dX12_in_0 rfl ?_
  refine x_lload_n (M := M_X12_in) dX12_in_1 rfl ?_
  refine x_lcmp (M := M_X12_in) dX12_in_2 ?_
  refine x_if_lt (M := M_X12_in) (tgt := 17) dX12_in_3 (by decide) (fun q => absurd ((bc_lt (i_i2l rfl) (by decide +kernel)).mp q) (by omega : ¬ (a0.toInt < 0))) (fun _ => ?_)
  refine x_lload_n (M := M_X12_in) dX12_in_6 rfl ?_
  refine x_lload (M := M_X12_in) dX12_in_7 rfl ?_
  refine x_lcmp (M := M_X12_in) dX12_in_9 ?_
  refine x_if_gt (M := M_X12_in) (tgt := 17) dX12_in_10 (by decide) (fun _ => ?_) (fun q => absurd ((bc_gt (i_i2l rfl) (by decide +kernel)).mpr (by omega : (6 < a0.toInt : Prop))) q)
  refine x_iconst (M := M_X12_in) dX12_in_17 ?_
  exact x_zret (M := M_X12_in) dX12_in_18 rfl (by decide) ⟨rfl, rfl⟩ (Nat.le_of_ble_eq_true rfl) (Nat.le_of_ble_eq_true rfl)
set_option maxRecDepth 10000 in
theorem q384 {l : Launch} {E : EE} (hl : l.stackTraces = false) {h : HP} {a0 : Int32} {dg : Int32} (c0 : ¬ (a0.toInt < 0)) (c1 : ¬ (a0.toInt < 7)) (o375 : ob h 277 = some (.inr (15, (RB dg)))) : en_C l E M_X12_place 1 0 0 [.ref 277, .int a0] h (pF (some (.int (Int32.ofInt 0))) [277] h (fun h' => ob h' 277 = some (.inr (15, ((RB dg).set 0 (.int (Int32.ofInt 1))))) ∧ True)) := by
  refine en_mk m_X12_place rfl hl (Nat.le_of_ble_eq_true rfl) ?_
  refine x_aload_n (M := M_X12_place) dX12_place_0 rfl ?_
  refine x_iconst (M := M_X12_place) dX12_place_1 ?_
  refine y_put (M := M_X12_place) (ci := 15) (C := RX12) (T := TX12) (N := 135) (ty := tyX12) cl15 dX12_place_2 o375 0 (by decide) t_2391 (Or.inl rfl) (Nat.le_of_ble_eq_true rfl) rfl (fun h376 w377 f378 => ?_)
  refine x_aload_n (M := M_X12_place) dX12_place_5 rfl ?_
  refine x_iload_n (M := M_X12_place) dX12_place_6 rfl ?_
  refine x_i2l (M := M_X12_place) dX12_place_7 ?_
  refine x_lconst (M := M_X12_place) dX12_place_8 ?_
  refine x_ldc2 (M := M_X12_place) dX12_place_9 t_3341 ?_
  refine x_norm (M := M_X12_place) (st' := [.long (Int64.ofInt 6), .long (Int64.ofInt 0), .long (a0.toInt64), .ref 277]) rfl (vj_cons (by decide +kernel : (6 : Int64) = (Int64.ofInt 6)) (vj_cons (by decide +kernel : (Int64.ofNat ((0 : Fin 2) : Nat)) = (Int64.ofInt 0)) rfl)) rfl rfl rfl ?_
  refine x_callSR (M := M_X12_place) (M' := M_X12_in) rfl rfl dX12_place_12 m_X12_in t_2818 t_2819 (q379 hl c0 c1) rfl rfl (Nat.le_of_ble_eq_true rfl) (Nat.le_of_ble_eq_true rfl) (Nat.le_of_ble_eq_true rfl) (Nat.le_of_ble_eq_true rfl) ?_
  refine x_if_ne (M := M_X12_place) (tgt := 22) dX12_place_15 (by decide) (fun q => absurd q (by decide +kernel)) (fun _ => ?_)
  refine x_iconst (M := M_X12_place) dX12_place_18 ?_
  refine x_goto (M := M_X12_place) (tgt := 23) dX12_place_19 (by decide) ?_
  refine x_iconst (M := M_X12_place) dX12_place_23 ?_
  refine y_callVR (M := M_X12_place) (M' := M_X12_fails) rfl rfl dX12_place_24 m_X12_fails t_2805 t_2807 s_157 (q22 hl w377) rfl rfl w377 rfl (Nat.le_of_ble_eq_true rfl) (Nat.le_of_ble_eq_true rfl) (Nat.le_of_ble_eq_true rfl) (Nat.le_of_ble_eq_true rfl) (fun h380 f381 w382 => ?_)
  obtain ⟨o383, -⟩ := w382
  refine x_if_eq (M := M_X12_place) (tgt := 32) dX12_place_27 (by decide) (fun q => absurd q (by decide +kernel)) (fun _ => ?_)
  refine x_iconst (M := M_X12_place) dX12_place_30 ?_
  exact x_iret (M := M_X12_place) dX12_place_31 rfl ⟨rfl, (fr_tr f381 (by decide) (fr_tr f378 (by decide) fr_rf)), ⟨o383, trivial⟩⟩ (Nat.le_of_ble_eq_true rfl) (Nat.le_of_ble_eq_true rfl)
set_option maxRecDepth 10000 in
theorem lc13_2 {l : Launch} {E : EE} (hl : l.stackTraces = false) (nm : String) {xs : Nat → Int32} (hx : E.2.2.2.2 0 = some (7, xs)) {h : HP} {a0 : Int32} {dg : Int32} (e2 : xs 2 = a0) (c0 : ¬ (a0.toInt < 0)) (c1 : ¬ (a0.toInt < 7)) (o371 : ob h 32 = some (.inr (14, [.ref 33, .ref 162, .ref 166, .int (0 : Int32), .int (0 : Int32), .int (0 : Int32), .ref 167, .ref 170, .ref 173, .ref 177, .ref 193, .ref 208, .ref 222, .ref 238, .ref 252, .ref 274, .ref 275, .ref 276, .int (0 : Int32)]))) (o385 : ob h 277 = some (.inr (15, (RB dg)))) : XX l E (M_law nm) 1312 342628 8074320 (fun o _ => o = .inl (some (.int 1))) 975 [some (.ref 0), some (.ref 32), some (.ref 277), some (.ref 359), some (.int (Int32.ofInt 1)), none, none, none] [] h 328 2463747 := by
  refine x_aload_n (M := (M_law nm)) dL_law_975 rfl ?_
  refine x_aload_n (M := (M_law nm)) dL_law_976 rfl ?_
  refine x_iload (M := (M_law nm)) dL_law_977 rfl ?_
  refine x_iconst (M := (M_law nm)) dL_law_979 ?_
  refine x_iadd (M := (M_law nm)) dL_law_980 ?_
  refine x_sald (M := (M_law nm)) dL_law_981 (by decide) hx (vp_inD (by decide +kernel)) ?_
  refine x_top (M := (M_law nm)) (y := a0) ((congrArg xs (by decide +kernel : ((Int32.ofInt 1) + (Int32.ofInt 1)).toNatClampNeg = 2)).trans e2) ?_
  refine x_aload_n (M := (M_law nm)) dL_law_982 rfl ?_
  refine y_callSW (M := (M_law nm)) (M' := M_L_place) rfl rfl dL_law_983 m_L_place t_1362 t_1363 (q370 hl c0 c1 o371) rfl rfl (Nat.le_of_ble_eq_true rfl) (Nat.le_of_ble_eq_true rfl) (Nat.le_of_ble_eq_true rfl) (Nat.le_of_ble_eq_true rfl) (fun h372 f373 w374 => ?_)
  refine x_istore (M := (M_law nm)) dL_law_986 (Nat.le_of_ble_eq_true rfl) rfl ?_
  refine x_aload_n (M := (M_law nm)) dL_law_988 rfl ?_
  refine x_aload_n (M := (M_law nm)) dL_law_989 rfl ?_
  refine x_iload (M := (M_law nm)) dL_law_990 rfl ?_
  refine x_iconst (M := (M_law nm)) dL_law_992 ?_
  refine x_iadd (M := (M_law nm)) dL_law_993 ?_
  refine x_sald (M := (M_law nm)) dL_law_994 (by decide) hx (vp_inD (by decide +kernel)) ?_
  refine x_top (M := (M_law nm)) (y := a0) ((congrArg xs (by decide +kernel : ((Int32.ofInt 1) + (Int32.ofInt 1)).toNatClampNeg = 2)).trans e2) ?_
  have o386 := (f373 277 _ (by decide) o385)
  refine y_callVR (M := (M_law nm)) (M' := M_X12_place) rfl rfl dL_law_995 m_X12_place t_3337 t_3338 t_3339 (q384 hl c0 c1 o386) rfl rfl o386 rfl (Nat.le_of_ble_eq_true rfl) (Nat.le_of_ble_eq_true rfl) (Nat.le_of_ble_eq_true rfl) (Nat.le_of_ble_eq_true rfl) (fun h387 f388 w389 => ?_)
  obtain ⟨o390, -⟩ := w389
  refine x_istore (M := (M_law nm)) dL_law_998 (Nat.le_of_ble_eq_true rfl) rfl ?_
  refine x_aload_n (M := (M_law nm)) dL_law_1000 rfl ?_
  refine x_callVR (M := (M_law nm)) (M' := M_X12_thrown) rfl rfl dL_law_1001 m_X12_thrown t_2797 t_2798 t_2799 (q35 hl o390) rfl rfl o390 rfl (Nat.le_of_ble_eq_true rfl) (Nat.le_of_ble_eq_true rfl) (Nat.le_of_ble_eq_true rfl) (Nat.le_of_ble_eq_true rfl) ?_
  refine x_iload (M := (M_law nm)) dL_law_1004 rfl ?_
  refine x_icmp_eq (M := (M_law nm)) (tgt := 1011) dL_law_1006 (by decide) (fun _ => ?_) (fun q => absurd q (by decide +kernel))
  refine x_iload (M := (M_law nm)) dL_law_1011 rfl ?_
  refine x_if_ne (M := (M_law nm)) (tgt := 1028) dL_law_1013 (by decide) (fun _ => ?_) (fun q => absurd q (by decide +kernel))
  refine x_goto (M := (M_law nm)) (tgt := 2449) dL_law_1028 (by decide) ?_
  refine x_iinc (M := (M_law nm)) dL_law_2449 rfl (Nat.le_of_ble_eq_true rfl) rfl ?_
  refine x_lvs (M := (M_law nm)) (lv' := [some (.ref 0), some (.ref 32), some (.ref 277), some (.ref 359), some (.int (Int32.ofInt 7)), some (.int (Int32.ofInt 1)), some (.int (Int32.ofInt 0)), none]) (by rw [(by decide +kernel : (Int32.ofInt 1) + Int32.ofInt 6 = (Int32.ofInt 7))] <;> rfl) ?_
  refine x_goto (M := (M_law nm)) (tgt := 33) dL_law_2452 (by decide) ?_
  refine x_iload (M := (M_law nm)) dL_law_33 rfl ?_
  refine x_aload_n (M := (M_law nm)) dL_law_35 rfl ?_
  refine x_slen (M := (M_law nm)) dL_law_36 (by decide) hx ?_
  refine x_bipush (M := (M_law nm)) dL_law_37 ?_
  refine x_isub (M := (M_law nm)) dL_law_39 ?_
  refine x_icmp_gt (M := (M_law nm)) (tgt := 2455) dL_law_40 (by decide) (fun _ => ?_) (fun q => absurd q (by decide +kernel))
  refine x_iconst (M := (M_law nm)) dL_law_2455 ?_
  exact x_zret (M := (M_law nm)) dL_law_2456 rfl (by decide) rfl (Nat.le_of_ble_eq_true rfl) (Nat.le_of_ble_eq_true rfl)
theorem lop13 {l : Launch} {E : EE} (hl : l.stackTraces = false) (nm : String) {xs : Nat → Int32} (hx : E.2.2.2.2 0 = some (7, xs)) (dg : Int32) : XX l E (M_law nm) 1312 342628 8074320 (fun o _ => o = .inl (some (.int 1))) 975 [some (.ref 0), some (.ref 32), some (.ref 277), some (.ref 359), some (.int (Int32.ofInt 1)), none, none, none] [] (HH dg) 328 2463747 := by
  obtain ⟨a0, e2⟩ : ∃ a : Int32, xs 2 = a := ⟨_, rfl⟩
  obtain ⟨a1, e3⟩ : ∃ a : Int32, xs 3 = a := ⟨_, rfl⟩
  obtain ⟨a2, e4⟩ : ∃ a : Int32, xs 4 = a := ⟨_, rfl⟩
  obtain ⟨a3, e5⟩ : ∃ a : Int32, xs 5 = a := ⟨_, rfl⟩
  obtain ⟨a4, e6⟩ : ∃ a : Int32, xs 6 = a := ⟨_, rfl⟩
  by_cases c0 : a0.toInt < 0
  · exact lc13_0 hl nm hx e2 c0 (o_32 dg) (o_277b dg)
  · by_cases c1 : a0.toInt < 7
    · exact lc13_1 hl nm hx e2 c0 c1 (o_32 dg) (o_177 dg) (o_178 dg) (o_359 dg) (o_277b dg) (oMR (dg := dg) (k := 7) rfl)
    · exact lc13_2 hl nm hx e2 c0 c1 (o_32 dg) (o_277b dg)
set_option maxRecDepth 10000 in
theorem q392 {l : Launch} {E : EE} (hl : l.stackTraces = false) {h : HP} {a0 : Int32} (c0 : a0.toInt < 0) : en_C l E M_X11_slotNumbered 6 1 6 [.ref 32, .int a0] h (pT "java/lang/IndexOutOfBoundsException" [] h (fun _ => True)) := by
  refine en_mk m_X11_slotNumbered rfl hl (Nat.le_of_ble_eq_true rfl) ?_
  refine x_iload_n (M := M_X11_slotNumbered) dX11_slotNumbered_0 rfl ?_
  refine x_if_lt (M := M_X11_slotNumbered) (tgt := 10) dX11_slotNumbered_1 (by decide) (fun _ => ?_) (fun q => absurd ((bi_lt rfl (by decide +kernel)).mpr (by omega : (a0.toInt < 0 : Prop))) q)
  exact x_throw (M := M_X11_slotNumbered) (names := en_nm) rfl dX11_slotNumbered_10 dX11_slotNumbered_13 dX11_slotNumbered_14 dX11_slotNumbered_17 (by decide +kernel) en_nm_ok (Or.inl t_748) (Or.inl t_22) (at_X11_IndexOutOfBoundsException_139) (Nat.le_of_ble_eq_true rfl) (Nat.le_of_ble_eq_true rfl) (Nat.le_of_ble_eq_true rfl) (Nat.le_of_ble_eq_true rfl) (fun n9 => ⟨rfl, (fr_tr (fr_app (List.replicate n9 none)) (fun _ h => nomatch h) fr_rf), trivial⟩)
set_option maxRecDepth 10000 in
theorem q397 {l : Launch} {E : EE} (hl : l.stackTraces = false) {h : HP} {a0 : Int32} {a1 : Int32} (c0 : a0.toInt < 0) (o393 : ob h 32 = some (.inr (14, [.ref 33, .ref 162, .ref 166, .int (0 : Int32), .int (0 : Int32), .int (0 : Int32), .ref 167, .ref 170, .ref 173, .ref 177, .ref 193, .ref 208, .ref 222, .ref 238, .ref 252, .ref 274, .ref 275, .ref 276, .int (0 : Int32)]))) : en_C l E M_X11_plan 7 1 6 [.ref 32, .int a0, .int a1] h (pT "java/lang/IndexOutOfBoundsException" [] h (fun _ => True)) := by
  refine en_mk m_X11_plan rfl hl (Nat.le_of_ble_eq_true rfl) ?_
  refine x_aload_n (M := M_X11_plan) dX11_plan_0 rfl ?_
  refine x_iload_n (M := M_X11_plan) dX11_plan_1 rfl ?_
  exact y_callVX (M := M_X11_plan) (M' := M_X11_slotNumbered) rfl rfl dX11_plan_2 m_X11_slotNumbered t_744 t_746 s_2 (q392 hl c0) rfl rfl o393 rfl (Nat.le_of_ble_eq_true rfl) (Nat.le_of_ble_eq_true rfl) (Nat.le_of_ble_eq_true rfl) (Nat.le_of_ble_eq_true rfl) (fun h394 f395 w396 => ⟨rfl, (fr_tr f395 (fun _ h => nomatch h) fr_rf), trivial⟩)
set_option maxRecDepth 10000 in
theorem q402 {l : Launch} {E : EE} (hl : l.stackTraces = false) {h : HP} {a0 : Int32} {a1 : Int32} (c0 : a0.toInt < 0) (o398 : ob h 32 = some (.inr (14, [.ref 33, .ref 162, .ref 166, .int (0 : Int32), .int (0 : Int32), .int (0 : Int32), .ref 167, .ref 170, .ref 173, .ref 177, .ref 193, .ref 208, .ref 222, .ref 238, .ref 252, .ref 274, .ref 275, .ref 276, .int (0 : Int32)]))) : en_C l E M_L_plan 8 1 6 [.ref 32, .int a0, .int a1, .ref 359] h (pF (some (.int (Int32.ofInt 1))) [] h (fun _ => True)) := by
  refine en_mkW m_L_plan rfl hl (Nat.le_of_ble_eq_true rfl) ?_
  refine x_aload_n (M := M_L_plan) dL_plan_0 rfl ?_
  refine x_iconst (M := M_L_plan) dL_plan_1 ?_
  refine x_aload_n (M := M_L_plan) dL_plan_2 rfl ?_
  refine x_iload_n (M := M_L_plan) dL_plan_3 rfl ?_
  refine x_iload_n (M := M_L_plan) dL_plan_4 rfl ?_
  refine y_callVHX (M := M_L_plan) (M' := M_X11_plan) (i9 := 4) (nx := 15) rfl dL_plan_5 m_X11_plan t_2280 t_2281 t_2282 o398 rfl (q397 hl c0 o398) rfl rfl (Nat.le_of_ble_eq_true rfl) (Nat.le_of_ble_eq_true rfl) (Nat.le_of_ble_eq_true rfl) (Nat.le_of_ble_eq_true rfl) (en_hdm (k0 := 4) [] [] rfl (fun _ h => nomatch h) (by decide +kernel) (by decide) t_739 n_750 dL_plan_13) (by decide) rfl (fun h399 f400 w401 => ?_)
  refine x_iconst (M := M_L_plan) dL_plan_15 ?_
  exact x_iret (M := M_L_plan) dL_plan_16 rfl ⟨rfl, (fr_tr f400 (fun _ h => nomatch h) fr_rf), trivial⟩ (Nat.le_of_ble_eq_true rfl) (Nat.le_of_ble_eq_true rfl)
set_option maxRecDepth 10000 in
theorem q411 {l : Launch} {E : EE} (hl : l.stackTraces = false) {h : HP} {a0 : Int32} (c0 : a0.toInt < 0) : en_C l E M_X12_isSlot 0 0 0 [.int a0] h (pR (some (.int (Int32.ofInt 0))) h) := by
  refine en_mk m_X12_isSlot rfl hl (Nat.le_of_ble_eq_true rfl) ?_
  refine x_iload_n (M := M_X12_isSlot) dX12_isSlot_0 rfl ?_
  refine x_if_lt (M := M_X12_isSlot) (tgt := 14) dX12_isSlot_1 (by decide) (fun _ => ?_) (fun q => absurd ((bi_lt rfl (by decide +kernel)).mpr (by omega : (a0.toInt < 0 : Prop))) q)
  refine x_iconst (M := M_X12_isSlot) dX12_isSlot_14 ?_
  exact x_zret (M := M_X12_isSlot) dX12_isSlot_15 rfl (by decide) ⟨rfl, rfl⟩ (Nat.le_of_ble_eq_true rfl) (Nat.le_of_ble_eq_true rfl)
set_option maxRecDepth 10000 in
theorem q416 {l : Launch} {E : EE} (hl : l.stackTraces = false) {h : HP} {a0 : Int32} {a1 : Int32} {dg : Int32} (c0 : a0.toInt < 0) (o407 : ob h 277 = some (.inr (15, (RB dg)))) : en_C l E M_X12_plan 1 0 0 [.ref 277, .int a0, .int a1] h (pF (some (.int (Int32.ofInt 0))) [277] h (fun h' => ob h' 277 = some (.inr (15, ((RB dg).set 0 (.int (Int32.ofInt 1))))) ∧ True)) := by
  refine en_mk m_X12_plan rfl hl (Nat.le_of_ble_eq_true rfl) ?_
  refine x_aload_n (M := M_X12_plan) dX12_plan_0 rfl ?_
  refine x_iconst (M := M_X12_plan) dX12_plan_1 ?_
  refine y_put (M := M_X12_plan) (ci := 15) (C := RX12) (T := TX12) (N := 135) (ty := tyX12) cl15 dX12_plan_2 o407 0 (by decide) t_2391 (Or.inl rfl) (Nat.le_of_ble_eq_true rfl) rfl (fun h408 w409 f410 => ?_)
  refine x_aload_n (M := M_X12_plan) dX12_plan_5 rfl ?_
  refine x_iload_n (M := M_X12_plan) dX12_plan_6 rfl ?_
  refine x_callSR (M := M_X12_plan) (M' := M_X12_isSlot) rfl rfl dX12_plan_7 m_X12_isSlot t_2841 t_2842 (q411 hl c0) rfl rfl (Nat.le_of_ble_eq_true rfl) (Nat.le_of_ble_eq_true rfl) (Nat.le_of_ble_eq_true rfl) (Nat.le_of_ble_eq_true rfl) ?_
  refine x_if_ne (M := M_X12_plan) (tgt := 17) dX12_plan_10 (by decide) (fun q => absurd q (by decide +kernel)) (fun _ => ?_)
  refine x_iconst (M := M_X12_plan) dX12_plan_13 ?_
  refine x_goto (M := M_X12_plan) (tgt := 18) dX12_plan_14 (by decide) ?_
  refine x_iconst (M := M_X12_plan) dX12_plan_18 ?_
  refine y_callVR (M := M_X12_plan) (M' := M_X12_fails) rfl rfl dX12_plan_19 m_X12_fails t_2805 t_2807 s_157 (q22 hl w409) rfl rfl w409 rfl (Nat.le_of_ble_eq_true rfl) (Nat.le_of_ble_eq_true rfl) (Nat.le_of_ble_eq_true rfl) (Nat.le_of_ble_eq_true rfl) (fun h412 f413 w414 => ?_)
  obtain ⟨o415, -⟩ := w414
  refine x_if_ne (M := M_X12_plan) (tgt := 56) dX12_plan_22 (by decide) (fun _ => ?_) (fun q => absurd q (by decide +kernel))
  refine x_iconst (M := M_X12_plan) dX12_plan_56 ?_
  exact x_iret (M := M_X12_plan) dX12_plan_57 rfl ⟨rfl, (fr_tr f413 (by decide) (fr_tr f410 (by decide) fr_rf)), ⟨o415, trivial⟩⟩ (Nat.le_of_ble_eq_true rfl) (Nat.le_of_ble_eq_true rfl)
set_option maxRecDepth 10000 in
theorem lc26_0 {l : Launch} {E : EE} (hl : l.stackTraces = false) (nm : String) {xs : Nat → Int32} (hx : E.2.2.2.2 0 = some (7, xs)) {h : HP} {a0 : Int32} {a1 : Int32} {dg : Int32} (e2 : xs 2 = a0) (e3 : xs 3 = a1) (c0 : a0.toInt < 0) (o403 : ob h 32 = some (.inr (14, [.ref 33, .ref 162, .ref 166, .int (0 : Int32), .int (0 : Int32), .int (0 : Int32), .ref 167, .ref 170, .ref 173, .ref 177, .ref 193, .ref 208, .ref 222, .ref 238, .ref 252, .ref 274, .ref 275, .ref 276, .int (0 : Int32)]))) (o417 : ob h 277 = some (.inr (15, (RB dg)))) : XX l E (M_law nm) 1312 342628 8074320 (fun o _ => o = .inl (some (.int 1))) 1937 [some (.ref 0), some (.ref 32), some (.ref 277), some (.ref 359), some (.int (Int32.ofInt 1)), none, none, none] [] h 328 2463747 := by
  refine x_aload_n (M := (M_law nm)) dL_law_1937 rfl ?_
  refine x_aload_n (M := (M_law nm)) dL_law_1938 rfl ?_
  refine x_iload (M := (M_law nm)) dL_law_1939 rfl ?_
  refine x_iconst (M := (M_law nm)) dL_law_1941 ?_
  refine x_iadd (M := (M_law nm)) dL_law_1942 ?_
  refine x_sald (M := (M_law nm)) dL_law_1943 (by decide) hx (vp_inD (by decide +kernel)) ?_
  refine x_top (M := (M_law nm)) (y := a0) ((congrArg xs (by decide +kernel : ((Int32.ofInt 1) + (Int32.ofInt 1)).toNatClampNeg = 2)).trans e2) ?_
  refine x_aload_n (M := (M_law nm)) dL_law_1944 rfl ?_
  refine x_iload (M := (M_law nm)) dL_law_1945 rfl ?_
  refine x_iconst (M := (M_law nm)) dL_law_1947 ?_
  refine x_iadd (M := (M_law nm)) dL_law_1948 ?_
  refine x_sald (M := (M_law nm)) dL_law_1949 (by decide) hx (vp_inD (by decide +kernel)) ?_
  refine x_top (M := (M_law nm)) (y := a1) ((congrArg xs (by decide +kernel : ((Int32.ofInt 1) + (Int32.ofInt 2)).toNatClampNeg = 3)).trans e3) ?_
  refine x_aload_n (M := (M_law nm)) dL_law_1950 rfl ?_
  refine y_callSW (M := (M_law nm)) (M' := M_L_plan) rfl rfl dL_law_1951 m_L_plan t_2277 t_2278 (q402 hl c0 o403) rfl rfl (Nat.le_of_ble_eq_true rfl) (Nat.le_of_ble_eq_true rfl) (Nat.le_of_ble_eq_true rfl) (Nat.le_of_ble_eq_true rfl) (fun h404 f405 w406 => ?_)
  refine x_istore (M := (M_law nm)) dL_law_1954 (Nat.le_of_ble_eq_true rfl) rfl ?_
  refine x_aload_n (M := (M_law nm)) dL_law_1956 rfl ?_
  refine x_aload_n (M := (M_law nm)) dL_law_1957 rfl ?_
  refine x_iload (M := (M_law nm)) dL_law_1958 rfl ?_
  refine x_iconst (M := (M_law nm)) dL_law_1960 ?_
  refine x_iadd (M := (M_law nm)) dL_law_1961 ?_
  refine x_sald (M := (M_law nm)) dL_law_1962 (by decide) hx (vp_inD (by decide +kernel)) ?_
  refine x_top (M := (M_law nm)) (y := a0) ((congrArg xs (by decide +kernel : ((Int32.ofInt 1) + (Int32.ofInt 1)).toNatClampNeg = 2)).trans e2) ?_
  refine x_aload_n (M := (M_law nm)) dL_law_1963 rfl ?_
  refine x_iload (M := (M_law nm)) dL_law_1964 rfl ?_
  refine x_iconst (M := (M_law nm)) dL_law_1966 ?_
  refine x_iadd (M := (M_law nm)) dL_law_1967 ?_
  refine x_sald (M := (M_law nm)) dL_law_1968 (by decide) hx (vp_inD (by decide +kernel)) ?_
  refine x_top (M := (M_law nm)) (y := a1) ((congrArg xs (by decide +kernel : ((Int32.ofInt 1) + (Int32.ofInt 2)).toNatClampNeg = 3)).trans e3) ?_
  have o418 := (f405 277 _ (by decide) o417)
  refine y_callVR (M := (M_law nm)) (M' := M_X12_plan) rfl rfl dL_law_1969 m_X12_plan t_3106 t_3107 t_3108 (q416 hl c0 o418) rfl rfl o418 rfl (Nat.le_of_ble_eq_true rfl) (Nat.le_of_ble_eq_true rfl) (Nat.le_of_ble_eq_true rfl) (Nat.le_of_ble_eq_true rfl) (fun h419 f420 w421 => ?_)
  obtain ⟨o422, -⟩ := w421
  refine x_istore (M := (M_law nm)) dL_law_1972 (Nat.le_of_ble_eq_true rfl) rfl ?_
  refine x_aload_n (M := (M_law nm)) dL_law_1974 rfl ?_
  refine x_callVR (M := (M_law nm)) (M' := M_X12_thrown) rfl rfl dL_law_1975 m_X12_thrown t_2797 t_2798 t_2799 (q35 hl o422) rfl rfl o422 rfl (Nat.le_of_ble_eq_true rfl) (Nat.le_of_ble_eq_true rfl) (Nat.le_of_ble_eq_true rfl) (Nat.le_of_ble_eq_true rfl) ?_
  refine x_iload (M := (M_law nm)) dL_law_1978 rfl ?_
  refine x_icmp_eq (M := (M_law nm)) (tgt := 1985) dL_law_1980 (by decide) (fun _ => ?_) (fun q => absurd q (by decide +kernel))
  refine x_iload (M := (M_law nm)) dL_law_1985 rfl ?_
  refine x_if_ne (M := (M_law nm)) (tgt := 2002) dL_law_1987 (by decide) (fun _ => ?_) (fun q => absurd q (by decide +kernel))
  refine x_goto (M := (M_law nm)) (tgt := 2449) dL_law_2002 (by decide) ?_
  refine x_iinc (M := (M_law nm)) dL_law_2449 rfl (Nat.le_of_ble_eq_true rfl) rfl ?_
  refine x_lvs (M := (M_law nm)) (lv' := [some (.ref 0), some (.ref 32), some (.ref 277), some (.ref 359), some (.int (Int32.ofInt 7)), some (.int (Int32.ofInt 1)), some (.int (Int32.ofInt 0)), none]) (by rw [(by decide +kernel : (Int32.ofInt 1) + Int32.ofInt 6 = (Int32.ofInt 7))] <;> rfl) ?_
  refine x_goto (M := (M_law nm)) (tgt := 33) dL_law_2452 (by decide) ?_
  refine x_iload (M := (M_law nm)) dL_law_33 rfl ?_
  refine x_aload_n (M := (M_law nm)) dL_law_35 rfl ?_
  refine x_slen (M := (M_law nm)) dL_law_36 (by decide) hx ?_
  refine x_bipush (M := (M_law nm)) dL_law_37 ?_
  refine x_isub (M := (M_law nm)) dL_law_39 ?_
  refine x_icmp_gt (M := (M_law nm)) (tgt := 2455) dL_law_40 (by decide) (fun _ => ?_) (fun q => absurd q (by decide +kernel))
  refine x_iconst (M := (M_law nm)) dL_law_2455 ?_
  exact x_zret (M := (M_law nm)) dL_law_2456 rfl (by decide) rfl (Nat.le_of_ble_eq_true rfl) (Nat.le_of_ble_eq_true rfl)
set_option maxRecDepth 10000 in
theorem q425 {l : Launch} {E : EE} (hl : l.stackTraces = false) {h : HP} {a0 : Int32} (c0 : ¬ (a0.toInt < 0)) (c1 : a0.toInt < 32) (o423 : ob h 32 = some (.inr (14, [.ref 33, .ref 162, .ref 166, .int (0 : Int32), .int (0 : Int32), .int (0 : Int32), .ref 167, .ref 170, .ref 173, .ref 177, .ref 193, .ref 208, .ref 222, .ref 238, .ref 252, .ref 274, .ref 275, .ref 276, .int (0 : Int32)]))) (o424 : ob h 33 = some (.inl (4, 32, .inr (.inr (.inr (.inr (shf 1 32))))))) : en_C l E M_X11_slotNumbered 0 0 0 [.ref 32, .int a0] h (pR (some (.ref (34 + 4 * a0.toNatClampNeg))) h) := by
  have n_a0 : a0.toNatClampNeg < 32 := nc_lt (by omega) (by decide)
  refine en_mk m_X11_slotNumbered rfl hl (Nat.le_of_ble_eq_true rfl) ?_
  refine x_iload_n (M := M_X11_slotNumbered) dX11_slotNumbered_0 rfl ?_
  refine x_if_lt (M := M_X11_slotNumbered) (tgt := 10) dX11_slotNumbered_1 (by decide) (fun q => absurd ((bi_lt rfl (by decide +kernel)).mp q) (by omega : ¬ (a0.toInt < 0))) (fun _ => ?_)
  refine x_iload_n (M := M_X11_slotNumbered) dX11_slotNumbered_4 rfl ?_
  refine x_bipush (M := M_X11_slotNumbered) dX11_slotNumbered_5 ?_
  refine x_icmp_lt (M := M_X11_slotNumbered) (tgt := 18) dX11_slotNumbered_7 (by decide) (fun _ => ?_) (fun q => absurd ((bi_lt rfl (by decide +kernel)).mpr (by omega : (a0.toInt < 32 : Prop))) q)
  refine x_aload_n (M := M_X11_slotNumbered) dX11_slotNumbered_18 rfl ?_
  refine x_getf (M := M_X11_slotNumbered) (ci := 14) (C := RX11) (T := TX11) (N := 19) (ty := tyX11) cl14 dX11_slotNumbered_19 o423 0 (by decide) t_563 (v := .ref 33) rfl ?_
  refine x_iload_n (M := M_X11_slotNumbered) dX11_slotNumbered_22 rfl ?_
  refine x_aald (M := M_X11_slotNumbered) (b := 34 + 4 * a0.toNatClampNeg) dX11_slotNumbered_23 o424 (vp_in_s (by omega) (by omega)) (shf_at n_a0) ?_
  exact x_aret (M := M_X11_slotNumbered) dX11_slotNumbered_24 rfl ⟨rfl, rfl⟩ (Nat.le_of_ble_eq_true rfl) (Nat.le_of_ble_eq_true rfl)
set_option maxRecDepth 10000 in
theorem q431 {l : Launch} {E : EE} (hl : l.stackTraces = false) {h : HP} {a0 : Int32} {a1 : Int32} (c0 : ¬ (a0.toInt < 0)) (c1 : a0.toInt < 32) (c2 : a1.toInt < 0) (o428 : ob h 32 = some (.inr (14, [.ref 33, .ref 162, .ref 166, .int (0 : Int32), .int (0 : Int32), .int (0 : Int32), .ref 167, .ref 170, .ref 173, .ref 177, .ref 193, .ref 208, .ref 222, .ref 238, .ref 252, .ref 274, .ref 275, .ref 276, .int (0 : Int32)]))) (o429 : ob h 33 = some (.inl (4, 32, .inr (.inr (.inr (.inr (shf 1 32))))))) : en_C l E M_X11_plan 6 1 6 [.ref 32, .int a0, .int a1] h (pT "java/lang/IndexOutOfBoundsException" [] h (fun _ => True)) := by
  refine en_mk m_X11_plan rfl hl (Nat.le_of_ble_eq_true rfl) ?_
  refine x_aload_n (M := M_X11_plan) dX11_plan_0 rfl ?_
  refine x_iload_n (M := M_X11_plan) dX11_plan_1 rfl ?_
  refine x_callVR (M := M_X11_plan) (M' := M_X11_slotNumbered) rfl rfl dX11_plan_2 m_X11_slotNumbered t_744 t_746 s_2 (q425 hl c0 c1 o428 o429) rfl rfl o428 rfl (Nat.le_of_ble_eq_true rfl) (Nat.le_of_ble_eq_true rfl) (Nat.le_of_ble_eq_true rfl) (Nat.le_of_ble_eq_true rfl) ?_
  refine x_astore_n (M := M_X11_plan) dX11_plan_5 (Nat.le_of_ble_eq_true rfl) rfl ?_
  refine x_iload_n (M := M_X11_plan) dX11_plan_6 rfl ?_
  refine x_if_lt (M := M_X11_plan) (tgt := 18) dX11_plan_7 (by decide) (fun _ => ?_) (fun q => absurd ((bi_lt rfl (by decide +kernel)).mpr (by omega : (a1.toInt < 0 : Prop))) q)
  exact x_throw (M := M_X11_plan) (names := en_nm) rfl dX11_plan_18 dX11_plan_21 dX11_plan_22 dX11_plan_25 (by decide +kernel) en_nm_ok (Or.inl t_748) (Or.inl t_22) (at_X11_IndexOutOfBoundsException_139) (Nat.le_of_ble_eq_true rfl) (Nat.le_of_ble_eq_true rfl) (Nat.le_of_ble_eq_true rfl) (Nat.le_of_ble_eq_true rfl) (fun n9 => ⟨rfl, (fr_tr (fr_app (List.replicate n9 none)) (fun _ h => nomatch h) fr_rf), trivial⟩)
set_option maxRecDepth 10000 in
theorem q437 {l : Launch} {E : EE} (hl : l.stackTraces = false) {h : HP} {a0 : Int32} {a1 : Int32} (c0 : ¬ (a0.toInt < 0)) (c1 : a0.toInt < 32) (c2 : a1.toInt < 0) (o432 : ob h 32 = some (.inr (14, [.ref 33, .ref 162, .ref 166, .int (0 : Int32), .int (0 : Int32), .int (0 : Int32), .ref 167, .ref 170, .ref 173, .ref 177, .ref 193, .ref 208, .ref 222, .ref 238, .ref 252, .ref 274, .ref 275, .ref 276, .int (0 : Int32)]))) (o433 : ob h 33 = some (.inl (4, 32, .inr (.inr (.inr (.inr (shf 1 32))))))) : en_C l E M_L_plan 7 1 6 [.ref 32, .int a0, .int a1, .ref 359] h (pF (some (.int (Int32.ofInt 1))) [] h (fun _ => True)) := by
  refine en_mkW m_L_plan rfl hl (Nat.le_of_ble_eq_true rfl) ?_
  refine x_aload_n (M := M_L_plan) dL_plan_0 rfl ?_
  refine x_iconst (M := M_L_plan) dL_plan_1 ?_
  refine x_aload_n (M := M_L_plan) dL_plan_2 rfl ?_
  refine x_iload_n (M := M_L_plan) dL_plan_3 rfl ?_
  refine x_iload_n (M := M_L_plan) dL_plan_4 rfl ?_
  refine y_callVHX (M := M_L_plan) (M' := M_X11_plan) (i9 := 4) (nx := 15) rfl dL_plan_5 m_X11_plan t_2280 t_2281 t_2282 o432 rfl (q431 hl c0 c1 c2 o432 o433) rfl rfl (Nat.le_of_ble_eq_true rfl) (Nat.le_of_ble_eq_true rfl) (Nat.le_of_ble_eq_true rfl) (Nat.le_of_ble_eq_true rfl) (en_hdm (k0 := 4) [] [] rfl (fun _ h => nomatch h) (by decide +kernel) (by decide) t_739 n_750 dL_plan_13) (by decide) rfl (fun h434 f435 w436 => ?_)
  refine x_iconst (M := M_L_plan) dL_plan_15 ?_
  exact x_iret (M := M_L_plan) dL_plan_16 rfl ⟨rfl, (fr_tr f435 (fun _ h => nomatch h) fr_rf), trivial⟩ (Nat.le_of_ble_eq_true rfl) (Nat.le_of_ble_eq_true rfl)
set_option maxRecDepth 10000 in
theorem q447 {l : Launch} {E : EE} (hl : l.stackTraces = false) {h : HP} {a0 : Int32} (c0 : ¬ (a0.toInt < 0)) (c1 : a0.toInt < 32) : en_C l E M_X12_isSlot 0 0 0 [.int a0] h (pR (some (.int (Int32.ofInt 1))) h) := by
  refine en_mk m_X12_isSlot rfl hl (Nat.le_of_ble_eq_true rfl) ?_
  refine x_iload_n (M := M_X12_isSlot) dX12_isSlot_0 rfl ?_
  refine x_if_lt (M := M_X12_isSlot) (tgt := 14) dX12_isSlot_1 (by decide) (fun q => absurd ((bi_lt rfl (by decide +kernel)).mp q) (by omega : ¬ (a0.toInt < 0))) (fun _ => ?_)
  refine x_iload_n (M := M_X12_isSlot) dX12_isSlot_4 rfl ?_
  refine x_bipush (M := M_X12_isSlot) dX12_isSlot_5 ?_
  refine x_icmp_ge (M := M_X12_isSlot) (tgt := 14) dX12_isSlot_7 (by decide) (fun q => absurd ((bi_le (by decide +kernel) rfl).mp q) (by omega : ¬ (32 ≤ a0.toInt))) (fun _ => ?_)
  refine x_iconst (M := M_X12_isSlot) dX12_isSlot_10 ?_
  refine x_goto (M := M_X12_isSlot) (tgt := 15) dX12_isSlot_11 (by decide) ?_
  exact x_zret (M := M_X12_isSlot) dX12_isSlot_15 rfl (by decide) ⟨rfl, rfl⟩ (Nat.le_of_ble_eq_true rfl) (Nat.le_of_ble_eq_true rfl)
set_option maxRecDepth 10000 in
theorem q454 {l : Launch} {E : EE} (hl : l.stackTraces = false) {h : HP} {a1 : Int32} (c0 : a1.toInt < 0) : en_C l E M_X12_in 0 0 0 [.long (a1.toInt64), .long (Int64.ofInt 0), .long (Int64.ofInt (-1))] h (pR (some (.int (Int32.ofInt 0))) h) := by
  refine en_mk m_X12_in rfl hl (Nat.le_of_ble_eq_true rfl) ?_
  refine x_lload_n (M := M_X12_in) dX12_in_0 rfl ?_
  refine x_lload_n (M := M_X12_in) dX12_in_1 rfl ?_
  refine x_lcmp (M := M_X12_in) dX12_in_2 ?_
  refine x_if_lt (M := M_X12_in) (tgt := 17) dX12_in_3 (by decide) (fun _ => ?_) (fun q => absurd ((bc_lt (i_i2l rfl) (by decide +kernel)).mpr (by omega : (a1.toInt < 0 : Prop))) q)
  refine x_iconst (M := M_X12_in) dX12_in_17 ?_
  exact x_zret (M := M_X12_in) dX12_in_18 rfl (by decide) ⟨rfl, rfl⟩ (Nat.le_of_ble_eq_true rfl) (Nat.le_of_ble_eq_true rfl)
set_option maxRecDepth 10000 in
theorem q459 {l : Launch} {E : EE} (hl : l.stackTraces = false) {h : HP} {a0 : Int32} {a1 : Int32} {dg : Int32} (c0 : ¬ (a0.toInt < 0)) (c1 : a0.toInt < 32) (c2 : a1.toInt < 0) (o443 : ob h 277 = some (.inr (15, (RB dg)))) (o452 : ob h 280 = some (.inl (0, 33, .inl (fun _ => 0)))) : en_C l E M_X12_plan 1 0 0 [.ref 277, .int a0, .int a1] h (pF (some (.int (Int32.ofInt 0))) [277] h (fun h' => ob h' 277 = some (.inr (15, ((RB dg).set 0 (.int (Int32.ofInt 1))))) ∧ True)) := by
  refine en_mk m_X12_plan rfl hl (Nat.le_of_ble_eq_true rfl) ?_
  refine x_aload_n (M := M_X12_plan) dX12_plan_0 rfl ?_
  refine x_iconst (M := M_X12_plan) dX12_plan_1 ?_
  refine y_put (M := M_X12_plan) (ci := 15) (C := RX12) (T := TX12) (N := 135) (ty := tyX12) cl15 dX12_plan_2 o443 0 (by decide) t_2391 (Or.inl rfl) (Nat.le_of_ble_eq_true rfl) rfl (fun h444 w445 f446 => ?_)
  refine x_aload_n (M := M_X12_plan) dX12_plan_5 rfl ?_
  refine x_iload_n (M := M_X12_plan) dX12_plan_6 rfl ?_
  refine x_callSR (M := M_X12_plan) (M' := M_X12_isSlot) rfl rfl dX12_plan_7 m_X12_isSlot t_2841 t_2842 (q447 hl c0 c1) rfl rfl (Nat.le_of_ble_eq_true rfl) (Nat.le_of_ble_eq_true rfl) (Nat.le_of_ble_eq_true rfl) (Nat.le_of_ble_eq_true rfl) ?_
  refine x_if_ne (M := M_X12_plan) (tgt := 17) dX12_plan_10 (by decide) (fun _ => ?_) (fun q => absurd q (by decide +kernel))
  refine x_iconst (M := M_X12_plan) dX12_plan_17 ?_
  refine x_iconst (M := M_X12_plan) dX12_plan_18 ?_
  refine y_callVR (M := M_X12_plan) (M' := M_X12_fails) rfl rfl dX12_plan_19 m_X12_fails t_2805 t_2807 s_157 (q241 hl w445) rfl rfl w445 rfl (Nat.le_of_ble_eq_true rfl) (Nat.le_of_ble_eq_true rfl) (Nat.le_of_ble_eq_true rfl) (Nat.le_of_ble_eq_true rfl) (fun h448 f449 w450 => ?_)
  obtain ⟨o451, -⟩ := w450
  refine x_if_ne (M := M_X12_plan) (tgt := 56) dX12_plan_22 (by decide) (fun q => absurd q (by decide +kernel)) (fun _ => ?_)
  refine x_aload_n (M := M_X12_plan) dX12_plan_25 rfl ?_
  refine x_iload_n (M := M_X12_plan) dX12_plan_26 rfl ?_
  refine x_i2l (M := M_X12_plan) dX12_plan_27 ?_
  refine x_lconst (M := M_X12_plan) dX12_plan_28 ?_
  refine x_aload_n (M := M_X12_plan) dX12_plan_29 rfl ?_
  refine x_getf (M := M_X12_plan) (ci := 15) (C := RX12) (T := TX12) (N := 135) (ty := tyX12) cl15 dX12_plan_30 o451 9 (by decide) t_2400 (v := .ref 280) rfl ?_
  refine x_iload_n (M := M_X12_plan) dX12_plan_33 rfl ?_
  have o453 := (f449 280 _ (by decide) (f446 280 _ (by decide) o452))
  refine x_iald (M := M_X12_plan) dX12_plan_34 o453 (vp_in_s (by omega) (by omega)) ?_
  refine x_top (M := M_X12_plan) (y := (Int32.ofInt 0)) rfl ?_
  refine x_iconst (M := M_X12_plan) dX12_plan_35 ?_
  refine x_isub (M := M_X12_plan) dX12_plan_36 ?_
  refine x_i2l (M := M_X12_plan) dX12_plan_37 ?_
  refine x_norm (M := M_X12_plan) (st' := [.long (Int64.ofInt (-1)), .long (Int64.ofInt 0), .long (a1.toInt64), .ref 277]) rfl (vj_cons (by decide +kernel : (((Int32.ofInt 0) - (Int32.ofInt 1)).toInt64) = (Int64.ofInt (-1))) (vj_cons (by decide +kernel : (Int64.ofNat ((0 : Fin 2) : Nat)) = (Int64.ofInt 0)) rfl)) rfl rfl rfl ?_
  refine x_callSR (M := M_X12_plan) (M' := M_X12_in) rfl rfl dX12_plan_38 m_X12_in t_2818 t_2819 (q454 hl c2) rfl rfl (Nat.le_of_ble_eq_true rfl) (Nat.le_of_ble_eq_true rfl) (Nat.le_of_ble_eq_true rfl) (Nat.le_of_ble_eq_true rfl) ?_
  refine x_if_ne (M := M_X12_plan) (tgt := 48) dX12_plan_41 (by decide) (fun q => absurd q (by decide +kernel)) (fun _ => ?_)
  refine x_iconst (M := M_X12_plan) dX12_plan_44 ?_
  refine x_goto (M := M_X12_plan) (tgt := 49) dX12_plan_45 (by decide) ?_
  refine x_iconst (M := M_X12_plan) dX12_plan_49 ?_
  refine y_callVR (M := M_X12_plan) (M' := M_X12_fails) rfl rfl dX12_plan_50 m_X12_fails t_2805 t_2807 s_157 (q22 hl o451) rfl rfl o451 rfl (Nat.le_of_ble_eq_true rfl) (Nat.le_of_ble_eq_true rfl) (Nat.le_of_ble_eq_true rfl) (Nat.le_of_ble_eq_true rfl) (fun h455 f456 w457 => ?_)
  obtain ⟨o458, -⟩ := w457
  refine x_if_eq (M := M_X12_plan) (tgt := 58) dX12_plan_53 (by decide) (fun q => absurd q (by decide +kernel)) (fun _ => ?_)
  refine x_iconst (M := M_X12_plan) dX12_plan_56 ?_
  exact x_iret (M := M_X12_plan) dX12_plan_57 rfl ⟨rfl, (fr_tr f456 (by decide) (fr_tr f449 (by decide) (fr_tr f446 (by decide) fr_rf))), ⟨o458, trivial⟩⟩ (Nat.le_of_ble_eq_true rfl) (Nat.le_of_ble_eq_true rfl)
set_option maxRecDepth 10000 in
theorem lc26_1 {l : Launch} {E : EE} (hl : l.stackTraces = false) (nm : String) {xs : Nat → Int32} (hx : E.2.2.2.2 0 = some (7, xs)) {h : HP} {a0 : Int32} {a1 : Int32} {dg : Int32} (e2 : xs 2 = a0) (e3 : xs 3 = a1) (c0 : ¬ (a0.toInt < 0)) (c1 : a0.toInt < 32) (c2 : a1.toInt < 0) (o438 : ob h 32 = some (.inr (14, [.ref 33, .ref 162, .ref 166, .int (0 : Int32), .int (0 : Int32), .int (0 : Int32), .ref 167, .ref 170, .ref 173, .ref 177, .ref 193, .ref 208, .ref 222, .ref 238, .ref 252, .ref 274, .ref 275, .ref 276, .int (0 : Int32)]))) (o439 : ob h 33 = some (.inl (4, 32, .inr (.inr (.inr (.inr (shf 1 32))))))) (o460 : ob h 277 = some (.inr (15, (RB dg)))) (o462 : ob h 280 = some (.inl (0, 33, .inl (fun _ => 0)))) : XX l E (M_law nm) 1312 342628 8074320 (fun o _ => o = .inl (some (.int 1))) 1937 [some (.ref 0), some (.ref 32), some (.ref 277), some (.ref 359), some (.int (Int32.ofInt 1)), none, none, none] [] h 328 2463747 := by
  refine x_aload_n (M := (M_law nm)) dL_law_1937 rfl ?_
  refine x_aload_n (M := (M_law nm)) dL_law_1938 rfl ?_
  refine x_iload (M := (M_law nm)) dL_law_1939 rfl ?_
  refine x_iconst (M := (M_law nm)) dL_law_1941 ?_
  refine x_iadd (M := (M_law nm)) dL_law_1942 ?_
  refine x_sald (M := (M_law nm)) dL_law_1943 (by decide) hx (vp_inD (by decide +kernel)) ?_
  refine x_top (M := (M_law nm)) (y := a0) ((congrArg xs (by decide +kernel : ((Int32.ofInt 1) + (Int32.ofInt 1)).toNatClampNeg = 2)).trans e2) ?_
  refine x_aload_n (M := (M_law nm)) dL_law_1944 rfl ?_
  refine x_iload (M := (M_law nm)) dL_law_1945 rfl ?_
  refine x_iconst (M := (M_law nm)) dL_law_1947 ?_
  refine x_iadd (M := (M_law nm)) dL_law_1948 ?_
  refine x_sald (M := (M_law nm)) dL_law_1949 (by decide) hx (vp_inD (by decide +kernel)) ?_
  refine x_top (M := (M_law nm)) (y := a1) ((congrArg xs (by decide +kernel : ((Int32.ofInt 1) + (Int32.ofInt 2)).toNatClampNeg = 3)).trans e3) ?_
  refine x_aload_n (M := (M_law nm)) dL_law_1950 rfl ?_
  refine y_callSW (M := (M_law nm)) (M' := M_L_plan) rfl rfl dL_law_1951 m_L_plan t_2277 t_2278 (q437 hl c0 c1 c2 o438 o439) rfl rfl (Nat.le_of_ble_eq_true rfl) (Nat.le_of_ble_eq_true rfl) (Nat.le_of_ble_eq_true rfl) (Nat.le_of_ble_eq_true rfl) (fun h440 f441 w442 => ?_)
  refine x_istore (M := (M_law nm)) dL_law_1954 (Nat.le_of_ble_eq_true rfl) rfl ?_
  refine x_aload_n (M := (M_law nm)) dL_law_1956 rfl ?_
  refine x_aload_n (M := (M_law nm)) dL_law_1957 rfl ?_
  refine x_iload (M := (M_law nm)) dL_law_1958 rfl ?_
  refine x_iconst (M := (M_law nm)) dL_law_1960 ?_
  refine x_iadd (M := (M_law nm)) dL_law_1961 ?_
  refine x_sald (M := (M_law nm)) dL_law_1962 (by decide) hx (vp_inD (by decide +kernel)) ?_
  refine x_top (M := (M_law nm)) (y := a0) ((congrArg xs (by decide +kernel : ((Int32.ofInt 1) + (Int32.ofInt 1)).toNatClampNeg = 2)).trans e2) ?_
  refine x_aload_n (M := (M_law nm)) dL_law_1963 rfl ?_
  refine x_iload (M := (M_law nm)) dL_law_1964 rfl ?_
  refine x_iconst (M := (M_law nm)) dL_law_1966 ?_
  refine x_iadd (M := (M_law nm)) dL_law_1967 ?_
  refine x_sald (M := (M_law nm)) dL_law_1968 (by decide) hx (vp_inD (by decide +kernel)) ?_
  refine x_top (M := (M_law nm)) (y := a1) ((congrArg xs (by decide +kernel : ((Int32.ofInt 1) + (Int32.ofInt 2)).toNatClampNeg = 3)).trans e3) ?_
  have o461 := (f441 277 _ (by decide) o460)
  have o463 := (f441 280 _ (by decide) o462)
  refine y_callVR (M := (M_law nm)) (M' := M_X12_plan) rfl rfl dL_law_1969 m_X12_plan t_3106 t_3107 t_3108 (q459 hl c0 c1 c2 o461 o463) rfl rfl o461 rfl (Nat.le_of_ble_eq_true rfl) (Nat.le_of_ble_eq_true rfl) (Nat.le_of_ble_eq_true rfl) (Nat.le_of_ble_eq_true rfl) (fun h464 f465 w466 => ?_)
  obtain ⟨o467, -⟩ := w466
  refine x_istore (M := (M_law nm)) dL_law_1972 (Nat.le_of_ble_eq_true rfl) rfl ?_
  refine x_aload_n (M := (M_law nm)) dL_law_1974 rfl ?_
  refine x_callVR (M := (M_law nm)) (M' := M_X12_thrown) rfl rfl dL_law_1975 m_X12_thrown t_2797 t_2798 t_2799 (q35 hl o467) rfl rfl o467 rfl (Nat.le_of_ble_eq_true rfl) (Nat.le_of_ble_eq_true rfl) (Nat.le_of_ble_eq_true rfl) (Nat.le_of_ble_eq_true rfl) ?_
  refine x_iload (M := (M_law nm)) dL_law_1978 rfl ?_
  refine x_icmp_eq (M := (M_law nm)) (tgt := 1985) dL_law_1980 (by decide) (fun _ => ?_) (fun q => absurd q (by decide +kernel))
  refine x_iload (M := (M_law nm)) dL_law_1985 rfl ?_
  refine x_if_ne (M := (M_law nm)) (tgt := 2002) dL_law_1987 (by decide) (fun _ => ?_) (fun q => absurd q (by decide +kernel))
  refine x_goto (M := (M_law nm)) (tgt := 2449) dL_law_2002 (by decide) ?_
  refine x_iinc (M := (M_law nm)) dL_law_2449 rfl (Nat.le_of_ble_eq_true rfl) rfl ?_
  refine x_lvs (M := (M_law nm)) (lv' := [some (.ref 0), some (.ref 32), some (.ref 277), some (.ref 359), some (.int (Int32.ofInt 7)), some (.int (Int32.ofInt 1)), some (.int (Int32.ofInt 0)), none]) (by rw [(by decide +kernel : (Int32.ofInt 1) + Int32.ofInt 6 = (Int32.ofInt 7))] <;> rfl) ?_
  refine x_goto (M := (M_law nm)) (tgt := 33) dL_law_2452 (by decide) ?_
  refine x_iload (M := (M_law nm)) dL_law_33 rfl ?_
  refine x_aload_n (M := (M_law nm)) dL_law_35 rfl ?_
  refine x_slen (M := (M_law nm)) dL_law_36 (by decide) hx ?_
  refine x_bipush (M := (M_law nm)) dL_law_37 ?_
  refine x_isub (M := (M_law nm)) dL_law_39 ?_
  refine x_icmp_gt (M := (M_law nm)) (tgt := 2455) dL_law_40 (by decide) (fun _ => ?_) (fun q => absurd q (by decide +kernel))
  refine x_iconst (M := (M_law nm)) dL_law_2455 ?_
  exact x_zret (M := (M_law nm)) dL_law_2456 rfl (by decide) rfl (Nat.le_of_ble_eq_true rfl) (Nat.le_of_ble_eq_true rfl)
set_option maxRecDepth 10000 in
theorem q472 {l : Launch} {E : EE} (hl : l.stackTraces = false) {h : HP} {a0 : Int32} {a1 : Int32} (c0 : ¬ (a0.toInt < 0)) (c1 : a0.toInt < 32) (c2 : ¬ (a1.toInt < 0)) (o468 : ob h 32 = some (.inr (14, [.ref 33, .ref 162, .ref 166, .int (0 : Int32), .int (0 : Int32), .int (0 : Int32), .ref 167, .ref 170, .ref 173, .ref 177, .ref 193, .ref 208, .ref 222, .ref 238, .ref 252, .ref 274, .ref 275, .ref 276, .int (0 : Int32)]))) (o469 : ob h 33 = some (.inl (4, 32, .inr (.inr (.inr (.inr (shf 1 32))))))) (o470 : ob h (34 + 4 * a0.toNatClampNeg) = some (.inr (9, [.ref (35 + 4 * a0.toNatClampNeg), .ref (36 + 4 * a0.toNatClampNeg), .ref (37 + 4 * a0.toNatClampNeg), .int (0 : Int32), .int (0 : Int32)]))) : en_C l E M_X11_plan 6 1 6 [.ref 32, .int a0, .int a1] h (pT "java/lang/IndexOutOfBoundsException" [] h (fun _ => True)) := by
  have n_a0 : a0.toNatClampNeg < 32 := nc_lt (by omega) (by decide)
  refine en_mk m_X11_plan rfl hl (Nat.le_of_ble_eq_true rfl) ?_
  refine x_aload_n (M := M_X11_plan) dX11_plan_0 rfl ?_
  refine x_iload_n (M := M_X11_plan) dX11_plan_1 rfl ?_
  refine x_callVR (M := M_X11_plan) (M' := M_X11_slotNumbered) rfl rfl dX11_plan_2 m_X11_slotNumbered t_744 t_746 s_2 (q425 hl c0 c1 o468 o469) rfl rfl o468 rfl (Nat.le_of_ble_eq_true rfl) (Nat.le_of_ble_eq_true rfl) (Nat.le_of_ble_eq_true rfl) (Nat.le_of_ble_eq_true rfl) ?_
  refine x_astore_n (M := M_X11_plan) dX11_plan_5 (Nat.le_of_ble_eq_true rfl) rfl ?_
  refine x_iload_n (M := M_X11_plan) dX11_plan_6 rfl ?_
  refine x_if_lt (M := M_X11_plan) (tgt := 18) dX11_plan_7 (by decide) (fun q => absurd ((bi_lt rfl (by decide +kernel)).mp q) (by omega : ¬ (a1.toInt < 0))) (fun _ => ?_)
  refine x_iload_n (M := M_X11_plan) dX11_plan_10 rfl ?_
  refine x_aload_n (M := M_X11_plan) dX11_plan_11 rfl ?_
  refine x_getf (M := M_X11_plan) (ci := 9) (C := RX6) (T := TX6) (N := 5) (ty := tyX6) cl9 dX11_plan_12 o470 3 (by decide) t_79 (v := .int (0 : Int32)) rfl ?_
  refine x_icmp_lt (M := M_X11_plan) (tgt := 26) dX11_plan_15 (by decide) (fun q => absurd ((bi_lt rfl (by decide +kernel)).mp q) (by omega : ¬ (a1.toInt < 0))) (fun _ => ?_)
  exact x_throw (M := M_X11_plan) (names := en_nm) rfl dX11_plan_18 dX11_plan_21 dX11_plan_22 dX11_plan_25 (by decide +kernel) en_nm_ok (Or.inl t_748) (Or.inl t_22) (at_X11_IndexOutOfBoundsException_139) (Nat.le_of_ble_eq_true rfl) (Nat.le_of_ble_eq_true rfl) (Nat.le_of_ble_eq_true rfl) (Nat.le_of_ble_eq_true rfl) (fun n9 => ⟨rfl, (fr_tr (fr_app (List.replicate n9 none)) (fun _ h => nomatch h) fr_rf), trivial⟩)
set_option maxRecDepth 10000 in
theorem q479 {l : Launch} {E : EE} (hl : l.stackTraces = false) {h : HP} {a0 : Int32} {a1 : Int32} (c0 : ¬ (a0.toInt < 0)) (c1 : a0.toInt < 32) (c2 : ¬ (a1.toInt < 0)) (o473 : ob h 32 = some (.inr (14, [.ref 33, .ref 162, .ref 166, .int (0 : Int32), .int (0 : Int32), .int (0 : Int32), .ref 167, .ref 170, .ref 173, .ref 177, .ref 193, .ref 208, .ref 222, .ref 238, .ref 252, .ref 274, .ref 275, .ref 276, .int (0 : Int32)]))) (o474 : ob h 33 = some (.inl (4, 32, .inr (.inr (.inr (.inr (shf 1 32))))))) (o475 : ob h (34 + 4 * a0.toNatClampNeg) = some (.inr (9, [.ref (35 + 4 * a0.toNatClampNeg), .ref (36 + 4 * a0.toNatClampNeg), .ref (37 + 4 * a0.toNatClampNeg), .int (0 : Int32), .int (0 : Int32)]))) : en_C l E M_L_plan 7 1 6 [.ref 32, .int a0, .int a1, .ref 359] h (pF (some (.int (Int32.ofInt 1))) [] h (fun _ => True)) := by
  have n_a0 : a0.toNatClampNeg < 32 := nc_lt (by omega) (by decide)
  refine en_mkW m_L_plan rfl hl (Nat.le_of_ble_eq_true rfl) ?_
  refine x_aload_n (M := M_L_plan) dL_plan_0 rfl ?_
  refine x_iconst (M := M_L_plan) dL_plan_1 ?_
  refine x_aload_n (M := M_L_plan) dL_plan_2 rfl ?_
  refine x_iload_n (M := M_L_plan) dL_plan_3 rfl ?_
  refine x_iload_n (M := M_L_plan) dL_plan_4 rfl ?_
  refine y_callVHX (M := M_L_plan) (M' := M_X11_plan) (i9 := 4) (nx := 15) rfl dL_plan_5 m_X11_plan t_2280 t_2281 t_2282 o473 rfl (q472 hl c0 c1 c2 o473 o474 o475) rfl rfl (Nat.le_of_ble_eq_true rfl) (Nat.le_of_ble_eq_true rfl) (Nat.le_of_ble_eq_true rfl) (Nat.le_of_ble_eq_true rfl) (en_hdm (k0 := 4) [] [] rfl (fun _ h => nomatch h) (by decide +kernel) (by decide) t_739 n_750 dL_plan_13) (by decide) rfl (fun h476 f477 w478 => ?_)
  refine x_iconst (M := M_L_plan) dL_plan_15 ?_
  exact x_iret (M := M_L_plan) dL_plan_16 rfl ⟨rfl, (fr_tr f477 (fun _ h => nomatch h) fr_rf), trivial⟩ (Nat.le_of_ble_eq_true rfl) (Nat.le_of_ble_eq_true rfl)
set_option maxRecDepth 10000 in
theorem q496 {l : Launch} {E : EE} (hl : l.stackTraces = false) {h : HP} {a1 : Int32} (c0 : ¬ (a1.toInt < 0)) : en_C l E M_X12_in 0 0 0 [.long (a1.toInt64), .long (Int64.ofInt 0), .long (Int64.ofInt (-1))] h (pR (some (.int (Int32.ofInt 0))) h) := by
  refine en_mk m_X12_in rfl hl (Nat.le_of_ble_eq_true rfl) ?_
  refine x_lload_n (M := M_X12_in) dX12_in_0 rfl ?_
  refine x_lload_n (M := M_X12_in) dX12_in_1 rfl ?_
  refine x_lcmp (M := M_X12_in) dX12_in_2 ?_
  refine x_if_lt (M := M_X12_in) (tgt := 17) dX12_in_3 (by decide) (fun q => absurd ((bc_lt (i_i2l rfl) (by decide +kernel)).mp q) (by omega : ¬ (a1.toInt < 0))) (fun _ => ?_)
  refine x_lload_n (M := M_X12_in) dX12_in_6 rfl ?_
  refine x_lload (M := M_X12_in) dX12_in_7 rfl ?_
  refine x_lcmp (M := M_X12_in) dX12_in_9 ?_
  refine x_if_gt (M := M_X12_in) (tgt := 17) dX12_in_10 (by decide) (fun _ => ?_) (fun q => absurd ((bc_gt (i_i2l rfl) (by decide +kernel)).mpr (by omega : ((-1) < a1.toInt : Prop))) q)
  refine x_iconst (M := M_X12_in) dX12_in_17 ?_
  exact x_zret (M := M_X12_in) dX12_in_18 rfl (by decide) ⟨rfl, rfl⟩ (Nat.le_of_ble_eq_true rfl) (Nat.le_of_ble_eq_true rfl)
set_option maxRecDepth 10000 in
theorem q501 {l : Launch} {E : EE} (hl : l.stackTraces = false) {h : HP} {a0 : Int32} {a1 : Int32} {dg : Int32} (c0 : ¬ (a0.toInt < 0)) (c1 : a0.toInt < 32) (c2 : ¬ (a1.toInt < 0)) (o486 : ob h 277 = some (.inr (15, (RB dg)))) (o494 : ob h 280 = some (.inl (0, 33, .inl (fun _ => 0)))) : en_C l E M_X12_plan 1 0 0 [.ref 277, .int a0, .int a1] h (pF (some (.int (Int32.ofInt 0))) [277] h (fun h' => ob h' 277 = some (.inr (15, ((RB dg).set 0 (.int (Int32.ofInt 1))))) ∧ True)) := by
  refine en_mk m_X12_plan rfl hl (Nat.le_of_ble_eq_true rfl) ?_
  refine x_aload_n (M := M_X12_plan) dX12_plan_0 rfl ?_
  refine x_iconst (M := M_X12_plan) dX12_plan_1 ?_
  refine y_put (M := M_X12_plan) (ci := 15) (C := RX12) (T := TX12) (N := 135) (ty := tyX12) cl15 dX12_plan_2 o486 0 (by decide) t_2391 (Or.inl rfl) (Nat.le_of_ble_eq_true rfl) rfl (fun h487 w488 f489 => ?_)
  refine x_aload_n (M := M_X12_plan) dX12_plan_5 rfl ?_
  refine x_iload_n (M := M_X12_plan) dX12_plan_6 rfl ?_
  refine x_callSR (M := M_X12_plan) (M' := M_X12_isSlot) rfl rfl dX12_plan_7 m_X12_isSlot t_2841 t_2842 (q447 hl c0 c1) rfl rfl (Nat.le_of_ble_eq_true rfl) (Nat.le_of_ble_eq_true rfl) (Nat.le_of_ble_eq_true rfl) (Nat.le_of_ble_eq_true rfl) ?_
  refine x_if_ne (M := M_X12_plan) (tgt := 17) dX12_plan_10 (by decide) (fun _ => ?_) (fun q => absurd q (by decide +kernel))
  refine x_iconst (M := M_X12_plan) dX12_plan_17 ?_
  refine x_iconst (M := M_X12_plan) dX12_plan_18 ?_
  refine y_callVR (M := M_X12_plan) (M' := M_X12_fails) rfl rfl dX12_plan_19 m_X12_fails t_2805 t_2807 s_157 (q241 hl w488) rfl rfl w488 rfl (Nat.le_of_ble_eq_true rfl) (Nat.le_of_ble_eq_true rfl) (Nat.le_of_ble_eq_true rfl) (Nat.le_of_ble_eq_true rfl) (fun h490 f491 w492 => ?_)
  obtain ⟨o493, -⟩ := w492
  refine x_if_ne (M := M_X12_plan) (tgt := 56) dX12_plan_22 (by decide) (fun q => absurd q (by decide +kernel)) (fun _ => ?_)
  refine x_aload_n (M := M_X12_plan) dX12_plan_25 rfl ?_
  refine x_iload_n (M := M_X12_plan) dX12_plan_26 rfl ?_
  refine x_i2l (M := M_X12_plan) dX12_plan_27 ?_
  refine x_lconst (M := M_X12_plan) dX12_plan_28 ?_
  refine x_aload_n (M := M_X12_plan) dX12_plan_29 rfl ?_
  refine x_getf (M := M_X12_plan) (ci := 15) (C := RX12) (T := TX12) (N := 135) (ty := tyX12) cl15 dX12_plan_30 o493 9 (by decide) t_2400 (v := .ref 280) rfl ?_
  refine x_iload_n (M := M_X12_plan) dX12_plan_33 rfl ?_
  have o495 := (f491 280 _ (by decide) (f489 280 _ (by decide) o494))
  refine x_iald (M := M_X12_plan) dX12_plan_34 o495 (vp_in_s (by omega) (by omega)) ?_
  refine x_top (M := M_X12_plan) (y := (Int32.ofInt 0)) rfl ?_
  refine x_iconst (M := M_X12_plan) dX12_plan_35 ?_
  refine x_isub (M := M_X12_plan) dX12_plan_36 ?_
  refine x_i2l (M := M_X12_plan) dX12_plan_37 ?_
  refine x_norm (M := M_X12_plan) (st' := [.long (Int64.ofInt (-1)), .long (Int64.ofInt 0), .long (a1.toInt64), .ref 277]) rfl (vj_cons (by decide +kernel : (((Int32.ofInt 0) - (Int32.ofInt 1)).toInt64) = (Int64.ofInt (-1))) (vj_cons (by decide +kernel : (Int64.ofNat ((0 : Fin 2) : Nat)) = (Int64.ofInt 0)) rfl)) rfl rfl rfl ?_
  refine x_callSR (M := M_X12_plan) (M' := M_X12_in) rfl rfl dX12_plan_38 m_X12_in t_2818 t_2819 (q496 hl c2) rfl rfl (Nat.le_of_ble_eq_true rfl) (Nat.le_of_ble_eq_true rfl) (Nat.le_of_ble_eq_true rfl) (Nat.le_of_ble_eq_true rfl) ?_
  refine x_if_ne (M := M_X12_plan) (tgt := 48) dX12_plan_41 (by decide) (fun q => absurd q (by decide +kernel)) (fun _ => ?_)
  refine x_iconst (M := M_X12_plan) dX12_plan_44 ?_
  refine x_goto (M := M_X12_plan) (tgt := 49) dX12_plan_45 (by decide) ?_
  refine x_iconst (M := M_X12_plan) dX12_plan_49 ?_
  refine y_callVR (M := M_X12_plan) (M' := M_X12_fails) rfl rfl dX12_plan_50 m_X12_fails t_2805 t_2807 s_157 (q22 hl o493) rfl rfl o493 rfl (Nat.le_of_ble_eq_true rfl) (Nat.le_of_ble_eq_true rfl) (Nat.le_of_ble_eq_true rfl) (Nat.le_of_ble_eq_true rfl) (fun h497 f498 w499 => ?_)
  obtain ⟨o500, -⟩ := w499
  refine x_if_eq (M := M_X12_plan) (tgt := 58) dX12_plan_53 (by decide) (fun q => absurd q (by decide +kernel)) (fun _ => ?_)
  refine x_iconst (M := M_X12_plan) dX12_plan_56 ?_
  exact x_iret (M := M_X12_plan) dX12_plan_57 rfl ⟨rfl, (fr_tr f498 (by decide) (fr_tr f491 (by decide) (fr_tr f489 (by decide) fr_rf))), ⟨o500, trivial⟩⟩ (Nat.le_of_ble_eq_true rfl) (Nat.le_of_ble_eq_true rfl)
set_option maxRecDepth 10000 in
theorem lc26_2 {l : Launch} {E : EE} (hl : l.stackTraces = false) (nm : String) {xs : Nat → Int32} (hx : E.2.2.2.2 0 = some (7, xs)) {h : HP} {a0 : Int32} {a1 : Int32} {dg : Int32} (e2 : xs 2 = a0) (e3 : xs 3 = a1) (c0 : ¬ (a0.toInt < 0)) (c1 : a0.toInt < 32) (c2 : ¬ (a1.toInt < 0)) (o480 : ob h 32 = some (.inr (14, [.ref 33, .ref 162, .ref 166, .int (0 : Int32), .int (0 : Int32), .int (0 : Int32), .ref 167, .ref 170, .ref 173, .ref 177, .ref 193, .ref 208, .ref 222, .ref 238, .ref 252, .ref 274, .ref 275, .ref 276, .int (0 : Int32)]))) (o481 : ob h 33 = some (.inl (4, 32, .inr (.inr (.inr (.inr (shf 1 32))))))) (o482 : ob h (34 + 4 * a0.toNatClampNeg) = some (.inr (9, [.ref (35 + 4 * a0.toNatClampNeg), .ref (36 + 4 * a0.toNatClampNeg), .ref (37 + 4 * a0.toNatClampNeg), .int (0 : Int32), .int (0 : Int32)]))) (o502 : ob h 277 = some (.inr (15, (RB dg)))) (o504 : ob h 280 = some (.inl (0, 33, .inl (fun _ => 0)))) : XX l E (M_law nm) 1312 342628 8074320 (fun o _ => o = .inl (some (.int 1))) 1937 [some (.ref 0), some (.ref 32), some (.ref 277), some (.ref 359), some (.int (Int32.ofInt 1)), none, none, none] [] h 328 2463747 := by
  have n_a0 : a0.toNatClampNeg < 32 := nc_lt (by omega) (by decide)
  refine x_aload_n (M := (M_law nm)) dL_law_1937 rfl ?_
  refine x_aload_n (M := (M_law nm)) dL_law_1938 rfl ?_
  refine x_iload (M := (M_law nm)) dL_law_1939 rfl ?_
  refine x_iconst (M := (M_law nm)) dL_law_1941 ?_
  refine x_iadd (M := (M_law nm)) dL_law_1942 ?_
  refine x_sald (M := (M_law nm)) dL_law_1943 (by decide) hx (vp_inD (by decide +kernel)) ?_
  refine x_top (M := (M_law nm)) (y := a0) ((congrArg xs (by decide +kernel : ((Int32.ofInt 1) + (Int32.ofInt 1)).toNatClampNeg = 2)).trans e2) ?_
  refine x_aload_n (M := (M_law nm)) dL_law_1944 rfl ?_
  refine x_iload (M := (M_law nm)) dL_law_1945 rfl ?_
  refine x_iconst (M := (M_law nm)) dL_law_1947 ?_
  refine x_iadd (M := (M_law nm)) dL_law_1948 ?_
  refine x_sald (M := (M_law nm)) dL_law_1949 (by decide) hx (vp_inD (by decide +kernel)) ?_
  refine x_top (M := (M_law nm)) (y := a1) ((congrArg xs (by decide +kernel : ((Int32.ofInt 1) + (Int32.ofInt 2)).toNatClampNeg = 3)).trans e3) ?_
  refine x_aload_n (M := (M_law nm)) dL_law_1950 rfl ?_
  refine y_callSW (M := (M_law nm)) (M' := M_L_plan) rfl rfl dL_law_1951 m_L_plan t_2277 t_2278 (q479 hl c0 c1 c2 o480 o481 o482) rfl rfl (Nat.le_of_ble_eq_true rfl) (Nat.le_of_ble_eq_true rfl) (Nat.le_of_ble_eq_true rfl) (Nat.le_of_ble_eq_true rfl) (fun h483 f484 w485 => ?_)
  refine x_istore (M := (M_law nm)) dL_law_1954 (Nat.le_of_ble_eq_true rfl) rfl ?_
  refine x_aload_n (M := (M_law nm)) dL_law_1956 rfl ?_
  refine x_aload_n (M := (M_law nm)) dL_law_1957 rfl ?_
  refine x_iload (M := (M_law nm)) dL_law_1958 rfl ?_
  refine x_iconst (M := (M_law nm)) dL_law_1960 ?_
  refine x_iadd (M := (M_law nm)) dL_law_1961 ?_
  refine x_sald (M := (M_law nm)) dL_law_1962 (by decide) hx (vp_inD (by decide +kernel)) ?_
  refine x_top (M := (M_law nm)) (y := a0) ((congrArg xs (by decide +kernel : ((Int32.ofInt 1) + (Int32.ofInt 1)).toNatClampNeg = 2)).trans e2) ?_
  refine x_aload_n (M := (M_law nm)) dL_law_1963 rfl ?_
  refine x_iload (M := (M_law nm)) dL_law_1964 rfl ?_
  refine x_iconst (M := (M_law nm)) dL_law_1966 ?_
  refine x_iadd (M := (M_law nm)) dL_law_1967 ?_
  refine x_sald (M := (M_law nm)) dL_law_1968 (by decide) hx (vp_inD (by decide +kernel)) ?_
  refine x_top (M := (M_law nm)) (y := a1) ((congrArg xs (by decide +kernel : ((Int32.ofInt 1) + (Int32.ofInt 2)).toNatClampNeg = 3)).trans e3) ?_
  have o503 := (f484 277 _ (by decide) o502)
  have o505 := (f484 280 _ (by decide) o504)
  refine y_callVR (M := (M_law nm)) (M' := M_X12_plan) rfl rfl dL_law_1969 m_X12_plan t_3106 t_3107 t_3108 (q501 hl c0 c1 c2 o503 o505) rfl rfl o503 rfl (Nat.le_of_ble_eq_true rfl) (Nat.le_of_ble_eq_true rfl) (Nat.le_of_ble_eq_true rfl) (Nat.le_of_ble_eq_true rfl) (fun h506 f507 w508 => ?_)
  obtain ⟨o509, -⟩ := w508
  refine x_istore (M := (M_law nm)) dL_law_1972 (Nat.le_of_ble_eq_true rfl) rfl ?_
  refine x_aload_n (M := (M_law nm)) dL_law_1974 rfl ?_
  refine x_callVR (M := (M_law nm)) (M' := M_X12_thrown) rfl rfl dL_law_1975 m_X12_thrown t_2797 t_2798 t_2799 (q35 hl o509) rfl rfl o509 rfl (Nat.le_of_ble_eq_true rfl) (Nat.le_of_ble_eq_true rfl) (Nat.le_of_ble_eq_true rfl) (Nat.le_of_ble_eq_true rfl) ?_
  refine x_iload (M := (M_law nm)) dL_law_1978 rfl ?_
  refine x_icmp_eq (M := (M_law nm)) (tgt := 1985) dL_law_1980 (by decide) (fun _ => ?_) (fun q => absurd q (by decide +kernel))
  refine x_iload (M := (M_law nm)) dL_law_1985 rfl ?_
  refine x_if_ne (M := (M_law nm)) (tgt := 2002) dL_law_1987 (by decide) (fun _ => ?_) (fun q => absurd q (by decide +kernel))
  refine x_goto (M := (M_law nm)) (tgt := 2449) dL_law_2002 (by decide) ?_
  refine x_iinc (M := (M_law nm)) dL_law_2449 rfl (Nat.le_of_ble_eq_true rfl) rfl ?_
  refine x_lvs (M := (M_law nm)) (lv' := [some (.ref 0), some (.ref 32), some (.ref 277), some (.ref 359), some (.int (Int32.ofInt 7)), some (.int (Int32.ofInt 1)), some (.int (Int32.ofInt 0)), none]) (by rw [(by decide +kernel : (Int32.ofInt 1) + Int32.ofInt 6 = (Int32.ofInt 7))] <;> rfl) ?_
  refine x_goto (M := (M_law nm)) (tgt := 33) dL_law_2452 (by decide) ?_
  refine x_iload (M := (M_law nm)) dL_law_33 rfl ?_
  refine x_aload_n (M := (M_law nm)) dL_law_35 rfl ?_
  refine x_slen (M := (M_law nm)) dL_law_36 (by decide) hx ?_
  refine x_bipush (M := (M_law nm)) dL_law_37 ?_
  refine x_isub (M := (M_law nm)) dL_law_39 ?_
  refine x_icmp_gt (M := (M_law nm)) (tgt := 2455) dL_law_40 (by decide) (fun _ => ?_) (fun q => absurd q (by decide +kernel))
  refine x_iconst (M := (M_law nm)) dL_law_2455 ?_
  exact x_zret (M := (M_law nm)) dL_law_2456 rfl (by decide) rfl (Nat.le_of_ble_eq_true rfl) (Nat.le_of_ble_eq_true rfl)
set_option maxRecDepth 10000 in
theorem q511 {l : Launch} {E : EE} (hl : l.stackTraces = false) {h : HP} {a0 : Int32} (c0 : ¬ (a0.toInt < 0)) (c1 : ¬ (a0.toInt < 32)) : en_C l E M_X11_slotNumbered 6 1 6 [.ref 32, .int a0] h (pT "java/lang/IndexOutOfBoundsException" [] h (fun _ => True)) := by
  refine en_mk m_X11_slotNumbered rfl hl (Nat.le_of_ble_eq_true rfl) ?_
  refine x_iload_n (M := M_X11_slotNumbered) dX11_slotNumbered_0 rfl ?_
  refine x_if_lt (M := M_X11_slotNumbered) (tgt := 10) dX11_slotNumbered_1 (by decide) (fun q => absurd ((bi_lt rfl (by decide +kernel)).mp q) (by omega : ¬ (a0.toInt < 0))) (fun _ => ?_)
  refine x_iload_n (M := M_X11_slotNumbered) dX11_slotNumbered_4 rfl ?_
  refine x_bipush (M := M_X11_slotNumbered) dX11_slotNumbered_5 ?_
  refine x_icmp_lt (M := M_X11_slotNumbered) (tgt := 18) dX11_slotNumbered_7 (by decide) (fun q => absurd ((bi_lt rfl (by decide +kernel)).mp q) (by omega : ¬ (a0.toInt < 32))) (fun _ => ?_)
  exact x_throw (M := M_X11_slotNumbered) (names := en_nm) rfl dX11_slotNumbered_10 dX11_slotNumbered_13 dX11_slotNumbered_14 dX11_slotNumbered_17 (by decide +kernel) en_nm_ok (Or.inl t_748) (Or.inl t_22) (at_X11_IndexOutOfBoundsException_139) (Nat.le_of_ble_eq_true rfl) (Nat.le_of_ble_eq_true rfl) (Nat.le_of_ble_eq_true rfl) (Nat.le_of_ble_eq_true rfl) (fun n9 => ⟨rfl, (fr_tr (fr_app (List.replicate n9 none)) (fun _ h => nomatch h) fr_rf), trivial⟩)
set_option maxRecDepth 10000 in
theorem q516 {l : Launch} {E : EE} (hl : l.stackTraces = false) {h : HP} {a0 : Int32} {a1 : Int32} (c0 : ¬ (a0.toInt < 0)) (c1 : ¬ (a0.toInt < 32)) (o512 : ob h 32 = some (.inr (14, [.ref 33, .ref 162, .ref 166, .int (0 : Int32), .int (0 : Int32), .int (0 : Int32), .ref 167, .ref 170, .ref 173, .ref 177, .ref 193, .ref 208, .ref 222, .ref 238, .ref 252, .ref 274, .ref 275, .ref 276, .int (0 : Int32)]))) : en_C l E M_X11_plan 7 1 6 [.ref 32, .int a0, .int a1] h (pT "java/lang/IndexOutOfBoundsException" [] h (fun _ => True)) := by
  refine en_mk m_X11_plan rfl hl (Nat.le_of_ble_eq_true rfl) ?_
  refine x_aload_n (M := M_X11_plan) dX11_plan_0 rfl ?_
  refine x_iload_n (M := M_X11_plan) dX11_plan_1 rfl ?_
  exact y_callVX (M := M_X11_plan) (M' := M_X11_slotNumbered) rfl rfl dX11_plan_2 m_X11_slotNumbered t_744 t_746 s_2 (q511 hl c0 c1) rfl rfl o512 rfl (Nat.le_of_ble_eq_true rfl) (Nat.le_of_ble_eq_true rfl) (Nat.le_of_ble_eq_true rfl) (Nat.le_of_ble_eq_true rfl) (fun h513 f514 w515 => ⟨rfl, (fr_tr f514 (fun _ h => nomatch h) fr_rf), trivial⟩)
set_option maxRecDepth 10000 in
theorem q521 {l : Launch} {E : EE} (hl : l.stackTraces = false) {h : HP} {a0 : Int32} {a1 : Int32} (c0 : ¬ (a0.toInt < 0)) (c1 : ¬ (a0.toInt < 32)) (o517 : ob h 32 = some (.inr (14, [.ref 33, .ref 162, .ref 166, .int (0 : Int32), .int (0 : Int32), .int (0 : Int32), .ref 167, .ref 170, .ref 173, .ref 177, .ref 193, .ref 208, .ref 222, .ref 238, .ref 252, .ref 274, .ref 275, .ref 276, .int (0 : Int32)]))) : en_C l E M_L_plan 8 1 6 [.ref 32, .int a0, .int a1, .ref 359] h (pF (some (.int (Int32.ofInt 1))) [] h (fun _ => True)) := by
  refine en_mkW m_L_plan rfl hl (Nat.le_of_ble_eq_true rfl) ?_
  refine x_aload_n (M := M_L_plan) dL_plan_0 rfl ?_
  refine x_iconst (M := M_L_plan) dL_plan_1 ?_
  refine x_aload_n (M := M_L_plan) dL_plan_2 rfl ?_
  refine x_iload_n (M := M_L_plan) dL_plan_3 rfl ?_
  refine x_iload_n (M := M_L_plan) dL_plan_4 rfl ?_
  refine y_callVHX (M := M_L_plan) (M' := M_X11_plan) (i9 := 4) (nx := 15) rfl dL_plan_5 m_X11_plan t_2280 t_2281 t_2282 o517 rfl (q516 hl c0 c1 o517) rfl rfl (Nat.le_of_ble_eq_true rfl) (Nat.le_of_ble_eq_true rfl) (Nat.le_of_ble_eq_true rfl) (Nat.le_of_ble_eq_true rfl) (en_hdm (k0 := 4) [] [] rfl (fun _ h => nomatch h) (by decide +kernel) (by decide) t_739 n_750 dL_plan_13) (by decide) rfl (fun h518 f519 w520 => ?_)
  refine x_iconst (M := M_L_plan) dL_plan_15 ?_
  exact x_iret (M := M_L_plan) dL_plan_16 rfl ⟨rfl, (fr_tr f519 (fun _ h => nomatch h) fr_rf), trivial⟩ (Nat.le_of_ble_eq_true rfl) (Nat.le_of_ble_eq_true rfl)
set_option maxRecDepth 10000 in
theorem q530 {l : Launch} {E : EE} (hl : l.stackTraces = false) {h : HP} {a0 : Int32} (c0 : ¬ (a0.toInt < 0)) (c1 : ¬ (a0.toInt < 32)) : en_C l E M_X12_isSlot 0 0 0 [.int a0] h (pR (some (.int (Int32.ofInt 0))) h) := by
  refine en_mk m_X12_isSlot rfl hl (Nat.le_of_ble_eq_true rfl) ?_
  refine x_iload_n (M := M_X12_isSlot) dX12_isSlot_0 rfl ?_
  refine x_if_lt (M := M_X12_isSlot) (tgt := 14) dX12_isSlot_1 (by decide) (fun q => absurd ((bi_lt rfl (by decide +kernel)).mp q) (by omega : ¬ (a0.toInt < 0))) (fun _ => ?_)
  refine x_iload_n (M := M_X12_isSlot) dX12_isSlot_4 rfl ?_
  refine x_bipush (M := M_X12_isSlot) dX12_isSlot_5 ?_
  refine x_icmp_ge (M := M_X12_isSlot) (tgt := 14) dX12_isSlot_7 (by decide) (fun _ => ?_) (fun q => absurd ((bi_le (by decide +kernel) rfl).mpr (by omega : (32 ≤ a0.toInt : Prop))) q)
  refine x_iconst (M := M_X12_isSlot) dX12_isSlot_14 ?_
  exact x_zret (M := M_X12_isSlot) dX12_isSlot_15 rfl (by decide) ⟨rfl, rfl⟩ (Nat.le_of_ble_eq_true rfl) (Nat.le_of_ble_eq_true rfl)
set_option maxRecDepth 10000 in
theorem q535 {l : Launch} {E : EE} (hl : l.stackTraces = false) {h : HP} {a0 : Int32} {a1 : Int32} {dg : Int32} (c0 : ¬ (a0.toInt < 0)) (c1 : ¬ (a0.toInt < 32)) (o526 : ob h 277 = some (.inr (15, (RB dg)))) : en_C l E M_X12_plan 1 0 0 [.ref 277, .int a0, .int a1] h (pF (some (.int (Int32.ofInt 0))) [277] h (fun h' => ob h' 277 = some (.inr (15, ((RB dg).set 0 (.int (Int32.ofInt 1))))) ∧ True)) := by
  refine en_mk m_X12_plan rfl hl (Nat.le_of_ble_eq_true rfl) ?_
  refine x_aload_n (M := M_X12_plan) dX12_plan_0 rfl ?_
  refine x_iconst (M := M_X12_plan) dX12_plan_1 ?_
  refine y_put (M := M_X12_plan) (ci := 15) (C := RX12) (T := TX12) (N := 135) (ty := tyX12) cl15 dX12_plan_2 o526 0 (by decide) t_2391 (Or.inl rfl) (Nat.le_of_ble_eq_true rfl) rfl (fun h527 w528 f529 => ?_)
  refine x_aload_n (M := M_X12_plan) dX12_plan_5 rfl ?_
  refine x_iload_n (M := M_X12_plan) dX12_plan_6 rfl ?_
  refine x_callSR (M := M_X12_plan) (M' := M_X12_isSlot) rfl rfl dX12_plan_7 m_X12_isSlot t_2841 t_2842 (q530 hl c0 c1) rfl rfl (Nat.le_of_ble_eq_true rfl) (Nat.le_of_ble_eq_true rfl) (Nat.le_of_ble_eq_true rfl) (Nat.le_of_ble_eq_true rfl) ?_
  refine x_if_ne (M := M_X12_plan) (tgt := 17) dX12_plan_10 (by decide) (fun q => absurd q (by decide +kernel)) (fun _ => ?_)
  refine x_iconst (M := M_X12_plan) dX12_plan_13 ?_
  refine x_goto (M := M_X12_plan) (tgt := 18) dX12_plan_14 (by decide) ?_
  refine x_iconst (M := M_X12_plan) dX12_plan_18 ?_
  refine y_callVR (M := M_X12_plan) (M' := M_X12_fails) rfl rfl dX12_plan_19 m_X12_fails t_2805 t_2807 s_157 (q22 hl w528) rfl rfl w528 rfl (Nat.le_of_ble_eq_true rfl) (Nat.le_of_ble_eq_true rfl) (Nat.le_of_ble_eq_true rfl) (Nat.le_of_ble_eq_true rfl) (fun h531 f532 w533 => ?_)
  obtain ⟨o534, -⟩ := w533
  refine x_if_ne (M := M_X12_plan) (tgt := 56) dX12_plan_22 (by decide) (fun _ => ?_) (fun q => absurd q (by decide +kernel))
  refine x_iconst (M := M_X12_plan) dX12_plan_56 ?_
  exact x_iret (M := M_X12_plan) dX12_plan_57 rfl ⟨rfl, (fr_tr f532 (by decide) (fr_tr f529 (by decide) fr_rf)), ⟨o534, trivial⟩⟩ (Nat.le_of_ble_eq_true rfl) (Nat.le_of_ble_eq_true rfl)
set_option maxRecDepth 10000 in
theorem lc26_3 {l : Launch} {E : EE} (hl : l.stackTraces = false) (nm : String) {xs : Nat → Int32} (hx : E.2.2.2.2 0 = some (7, xs)) {h : HP} {a0 : Int32} {a1 : Int32} {dg : Int32} (e2 : xs 2 = a0) (e3 : xs 3 = a1) (c0 : ¬ (a0.toInt < 0)) (c1 : ¬ (a0.toInt < 32)) (o522 : ob h 32 = some (.inr (14, [.ref 33, .ref 162, .ref 166, .int (0 : Int32), .int (0 : Int32), .int (0 : Int32), .ref 167, .ref 170, .ref 173, .ref 177, .ref 193, .ref 208, .ref 222, .ref 238, .ref 252, .ref 274, .ref 275, .ref 276, .int (0 : Int32)]))) (o536 : ob h 277 = some (.inr (15, (RB dg)))) : XX l E (M_law nm) 1312 342628 8074320 (fun o _ => o = .inl (some (.int 1))) 1937 [some (.ref 0), some (.ref 32), some (.ref 277), some (.ref 359), some (.int (Int32.ofInt 1)), none, none, none] [] h 328 2463747 := by
  refine x_aload_n (M := (M_law nm)) dL_law_1937 rfl ?_
  refine x_aload_n (M := (M_law nm)) dL_law_1938 rfl ?_
  refine x_iload (M := (M_law nm)) dL_law_1939 rfl ?_
  refine x_iconst (M := (M_law nm)) dL_law_1941 ?_
  refine x_iadd (M := (M_law nm)) dL_law_1942 ?_
  refine x_sald (M := (M_law nm)) dL_law_1943 (by decide) hx (vp_inD (by decide +kernel)) ?_
  refine x_top (M := (M_law nm)) (y := a0) ((congrArg xs (by decide +kernel : ((Int32.ofInt 1) + (Int32.ofInt 1)).toNatClampNeg = 2)).trans e2) ?_
  refine x_aload_n (M := (M_law nm)) dL_law_1944 rfl ?_
  refine x_iload (M := (M_law nm)) dL_law_1945 rfl ?_
  refine x_iconst (M := (M_law nm)) dL_law_1947 ?_
  refine x_iadd (M := (M_law nm)) dL_law_1948 ?_
  refine x_sald (M := (M_law nm)) dL_law_1949 (by decide) hx (vp_inD (by decide +kernel)) ?_
  refine x_top (M := (M_law nm)) (y := a1) ((congrArg xs (by decide +kernel : ((Int32.ofInt 1) + (Int32.ofInt 2)).toNatClampNeg = 3)).trans e3) ?_
  refine x_aload_n (M := (M_law nm)) dL_law_1950 rfl ?_
  refine y_callSW (M := (M_law nm)) (M' := M_L_plan) rfl rfl dL_law_1951 m_L_plan t_2277 t_2278 (q521 hl c0 c1 o522) rfl rfl (Nat.le_of_ble_eq_true rfl) (Nat.le_of_ble_eq_true rfl) (Nat.le_of_ble_eq_true rfl) (Nat.le_of_ble_eq_true rfl) (fun h523 f524 w525 => ?_)
  refine x_istore (M := (M_law nm)) dL_law_1954 (Nat.le_of_ble_eq_true rfl) rfl ?_
  refine x_aload_n (M := (M_law nm)) dL_law_1956 rfl ?_
  refine x_aload_n (M := (M_law nm)) dL_law_1957 rfl ?_
  refine x_iload (M := (M_law nm)) dL_law_1958 rfl ?_
  refine x_iconst (M := (M_law nm)) dL_law_1960 ?_
  refine x_iadd (M := (M_law nm)) dL_law_1961 ?_
  refine x_sald (M := (M_law nm)) dL_law_1962 (by decide) hx (vp_inD (by decide +kernel)) ?_
  refine x_top (M := (M_law nm)) (y := a0) ((congrArg xs (by decide +kernel : ((Int32.ofInt 1) + (Int32.ofInt 1)).toNatClampNeg = 2)).trans e2) ?_
  refine x_aload_n (M := (M_law nm)) dL_law_1963 rfl ?_
  refine x_iload (M := (M_law nm)) dL_law_1964 rfl ?_
  refine x_iconst (M := (M_law nm)) dL_law_1966 ?_
  refine x_iadd (M := (M_law nm)) dL_law_1967 ?_
  refine x_sald (M := (M_law nm)) dL_law_1968 (by decide) hx (vp_inD (by decide +kernel)) ?_
  refine x_top (M := (M_law nm)) (y := a1) ((congrArg xs (by decide +kernel : ((Int32.ofInt 1) + (Int32.ofInt 2)).toNatClampNeg = 3)).trans e3) ?_
  have o537 := (f524 277 _ (by decide) o536)
  refine y_callVR (M := (M_law nm)) (M' := M_X12_plan) rfl rfl dL_law_1969 m_X12_plan t_3106 t_3107 t_3108 (q535 hl c0 c1 o537) rfl rfl o537 rfl (Nat.le_of_ble_eq_true rfl) (Nat.le_of_ble_eq_true rfl) (Nat.le_of_ble_eq_true rfl) (Nat.le_of_ble_eq_true rfl) (fun h538 f539 w540 => ?_)
  obtain ⟨o541, -⟩ := w540
  refine x_istore (M := (M_law nm)) dL_law_1972 (Nat.le_of_ble_eq_true rfl) rfl ?_
  refine x_aload_n (M := (M_law nm)) dL_law_1974 rfl ?_
  refine x_callVR (M := (M_law nm)) (M' := M_X12_thrown) rfl rfl dL_law_1975 m_X12_thrown t_2797 t_2798 t_2799 (q35 hl o541) rfl rfl o541 rfl (Nat.le_of_ble_eq_true rfl) (Nat.le_of_ble_eq_true rfl) (Nat.le_of_ble_eq_true rfl) (Nat.le_of_ble_eq_true rfl) ?_
  refine x_iload (M := (M_law nm)) dL_law_1978 rfl ?_
  refine x_icmp_eq (M := (M_law nm)) (tgt := 1985) dL_law_1980 (by decide) (fun _ => ?_) (fun q => absurd q (by decide +kernel))
  refine x_iload (M := (M_law nm)) dL_law_1985 rfl ?_
  refine x_if_ne (M := (M_law nm)) (tgt := 2002) dL_law_1987 (by decide) (fun _ => ?_) (fun q => absurd q (by decide +kernel))
  refine x_goto (M := (M_law nm)) (tgt := 2449) dL_law_2002 (by decide) ?_
  refine x_iinc (M := (M_law nm)) dL_law_2449 rfl (Nat.le_of_ble_eq_true rfl) rfl ?_
  refine x_lvs (M := (M_law nm)) (lv' := [some (.ref 0), some (.ref 32), some (.ref 277), some (.ref 359), some (.int (Int32.ofInt 7)), some (.int (Int32.ofInt 1)), some (.int (Int32.ofInt 0)), none]) (by rw [(by decide +kernel : (Int32.ofInt 1) + Int32.ofInt 6 = (Int32.ofInt 7))] <;> rfl) ?_
  refine x_goto (M := (M_law nm)) (tgt := 33) dL_law_2452 (by decide) ?_
  refine x_iload (M := (M_law nm)) dL_law_33 rfl ?_
  refine x_aload_n (M := (M_law nm)) dL_law_35 rfl ?_
  refine x_slen (M := (M_law nm)) dL_law_36 (by decide) hx ?_
  refine x_bipush (M := (M_law nm)) dL_law_37 ?_
  refine x_isub (M := (M_law nm)) dL_law_39 ?_
  refine x_icmp_gt (M := (M_law nm)) (tgt := 2455) dL_law_40 (by decide) (fun _ => ?_) (fun q => absurd q (by decide +kernel))
  refine x_iconst (M := (M_law nm)) dL_law_2455 ?_
  exact x_zret (M := (M_law nm)) dL_law_2456 rfl (by decide) rfl (Nat.le_of_ble_eq_true rfl) (Nat.le_of_ble_eq_true rfl)
theorem lop26 {l : Launch} {E : EE} (hl : l.stackTraces = false) (nm : String) {xs : Nat → Int32} (hx : E.2.2.2.2 0 = some (7, xs)) (dg : Int32) : XX l E (M_law nm) 1312 342628 8074320 (fun o _ => o = .inl (some (.int 1))) 1937 [some (.ref 0), some (.ref 32), some (.ref 277), some (.ref 359), some (.int (Int32.ofInt 1)), none, none, none] [] (HH dg) 328 2463747 := by
  obtain ⟨a0, e2⟩ : ∃ a : Int32, xs 2 = a := ⟨_, rfl⟩
  obtain ⟨a1, e3⟩ : ∃ a : Int32, xs 3 = a := ⟨_, rfl⟩
  obtain ⟨a2, e4⟩ : ∃ a : Int32, xs 4 = a := ⟨_, rfl⟩
  obtain ⟨a3, e5⟩ : ∃ a : Int32, xs 5 = a := ⟨_, rfl⟩
  obtain ⟨a4, e6⟩ : ∃ a : Int32, xs 6 = a := ⟨_, rfl⟩
  by_cases c0 : a0.toInt < 0
  · exact lc26_0 hl nm hx e2 e3 c0 (o_32 dg) (o_277b dg)
  · by_cases c1 : a0.toInt < 32
    · by_cases c2 : a1.toInt < 0
      · exact lc26_1 hl nm hx e2 e3 c0 c1 c2 (o_32 dg) (o_33 dg) (o_277b dg) (oMR (dg := dg) (k := 2) rfl)
      · have n_a0 : a0.toNatClampNeg < 32 := nc_lt (by omega) (by decide)
        exact lc26_2 hl nm hx e2 e3 c0 c1 c2 (o_32 dg) (o_33 dg) (o_sh dg a0.toNatClampNeg n_a0) (o_277b dg) (oMR (dg := dg) (k := 2) rfl)
    · exact lc26_3 hl nm hx e2 e3 c0 c1 (o_32 dg) (o_277b dg)
set_option maxRecDepth 10000 in
theorem q546 {l : Launch} {E : EE} (hl : l.stackTraces = false) {h : HP} {a0 : Int32} {a1 : Int32} {a2 : Int32} (c0 : a0.toInt < 0) (o542 : ob h 32 = some (.inr (14, [.ref 33, .ref 162, .ref 166, .int (0 : Int32), .int (0 : Int32), .int (0 : Int32), .ref 167, .ref 170, .ref 173, .ref 177, .ref 193, .ref 208, .ref 222, .ref 238, .ref 252, .ref 274, .ref 275, .ref 276, .int (0 : Int32)]))) : en_C l E M_X11_ordinate 7 1 6 [.ref 32, .int a0, .int a1, .int a2] h (pT "java/lang/IndexOutOfBoundsException" [] h (fun _ => True)) := by
  refine en_mk m_X11_ordinate rfl hl (Nat.le_of_ble_eq_true rfl) ?_
  refine x_aload_n (M := M_X11_ordinate) dX11_ordinate_0 rfl ?_
  refine x_iload_n (M := M_X11_ordinate) dX11_ordinate_1 rfl ?_
  exact y_callVX (M := M_X11_ordinate) (M' := M_X11_slotNumbered) rfl rfl dX11_ordinate_2 m_X11_slotNumbered t_744 t_746 s_2 (q392 hl c0) rfl rfl o542 rfl (Nat.le_of_ble_eq_true rfl) (Nat.le_of_ble_eq_true rfl) (Nat.le_of_ble_eq_true rfl) (Nat.le_of_ble_eq_true rfl) (fun h543 f544 w545 => ⟨rfl, (fr_tr f544 (fun _ h => nomatch h) fr_rf), trivial⟩)
set_option maxRecDepth 10000 in
theorem q551 {l : Launch} {E : EE} (hl : l.stackTraces = false) {h : HP} {a0 : Int32} {a1 : Int32} {a2 : Int32} (c0 : a0.toInt < 0) (o547 : ob h 32 = some (.inr (14, [.ref 33, .ref 162, .ref 166, .int (0 : Int32), .int (0 : Int32), .int (0 : Int32), .ref 167, .ref 170, .ref 173, .ref 177, .ref 193, .ref 208, .ref 222, .ref 238, .ref 252, .ref 274, .ref 275, .ref 276, .int (0 : Int32)]))) : en_C l E M_L_ordinate 8 1 6 [.ref 32, .int a0, .int a1, .int a2, .ref 359] h (pF (some (.int (Int32.ofInt 1))) [] h (fun _ => True)) := by
  refine en_mkW m_L_ordinate rfl hl (Nat.le_of_ble_eq_true rfl) ?_
  refine x_aload (M := M_L_ordinate) dL_ordinate_0 rfl ?_
  refine x_iconst (M := M_L_ordinate) dL_ordinate_2 ?_
  refine x_aload_n (M := M_L_ordinate) dL_ordinate_3 rfl ?_
  refine x_iload_n (M := M_L_ordinate) dL_ordinate_4 rfl ?_
  refine x_iload_n (M := M_L_ordinate) dL_ordinate_5 rfl ?_
  refine x_iload_n (M := M_L_ordinate) dL_ordinate_6 rfl ?_
  refine y_callVHX (M := M_L_ordinate) (M' := M_X11_ordinate) (i9 := 5) (nx := 17) rfl dL_ordinate_7 m_X11_ordinate t_2287 t_2288 t_2289 o547 rfl (q546 hl c0 o547) rfl rfl (Nat.le_of_ble_eq_true rfl) (Nat.le_of_ble_eq_true rfl) (Nat.le_of_ble_eq_true rfl) (Nat.le_of_ble_eq_true rfl) (en_hdm (k0 := 5) [] [] rfl (fun _ h => nomatch h) (by decide +kernel) (by decide) t_739 n_750 dL_ordinate_15) (by decide) rfl (fun h548 f549 w550 => ?_)
  refine x_iconst (M := M_L_ordinate) dL_ordinate_17 ?_
  exact x_iret (M := M_L_ordinate) dL_ordinate_18 rfl ⟨rfl, (fr_tr f549 (fun _ h => nomatch h) fr_rf), trivial⟩ (Nat.le_of_ble_eq_true rfl) (Nat.le_of_ble_eq_true rfl)
set_option maxRecDepth 10000 in
theorem q564 {l : Launch} {E : EE} (hl : l.stackTraces = false) {h : HP} {a0 : Int32} {a1 : Int32} {a2 : Int32} {dg : Int32} (c0 : a0.toInt < 0) (o556 : ob h 277 = some (.inr (15, (RB dg)))) : en_C l E M_X12_ordinate 1 0 0 [.ref 277, .int a0, .int a1, .int a2] h (pF (some (.int (Int32.ofInt 0))) [277] h (fun h' => ob h' 277 = some (.inr (15, ((RB dg).set 0 (.int (Int32.ofInt 1))))) ∧ True)) := by
  refine en_mk m_X12_ordinate rfl hl (Nat.le_of_ble_eq_true rfl) ?_
  refine x_aload_n (M := M_X12_ordinate) dX12_ordinate_0 rfl ?_
  refine x_iconst (M := M_X12_ordinate) dX12_ordinate_1 ?_
  refine y_put (M := M_X12_ordinate) (ci := 15) (C := RX12) (T := TX12) (N := 135) (ty := tyX12) cl15 dX12_ordinate_2 o556 0 (by decide) t_2391 (Or.inl rfl) (Nat.le_of_ble_eq_true rfl) rfl (fun h557 w558 f559 => ?_)
  refine x_aload_n (M := M_X12_ordinate) dX12_ordinate_5 rfl ?_
  refine x_iload_n (M := M_X12_ordinate) dX12_ordinate_6 rfl ?_
  refine x_callSR (M := M_X12_ordinate) (M' := M_X12_isSlot) rfl rfl dX12_ordinate_7 m_X12_isSlot t_2841 t_2842 (q411 hl c0) rfl rfl (Nat.le_of_ble_eq_true rfl) (Nat.le_of_ble_eq_true rfl) (Nat.le_of_ble_eq_true rfl) (Nat.le_of_ble_eq_true rfl) ?_
  refine x_if_ne (M := M_X12_ordinate) (tgt := 17) dX12_ordinate_10 (by decide) (fun q => absurd q (by decide +kernel)) (fun _ => ?_)
  refine x_iconst (M := M_X12_ordinate) dX12_ordinate_13 ?_
  refine x_goto (M := M_X12_ordinate) (tgt := 18) dX12_ordinate_14 (by decide) ?_
  refine x_iconst (M := M_X12_ordinate) dX12_ordinate_18 ?_
  refine y_callVR (M := M_X12_ordinate) (M' := M_X12_fails) rfl rfl dX12_ordinate_19 m_X12_fails t_2805 t_2807 s_157 (q22 hl w558) rfl rfl w558 rfl (Nat.le_of_ble_eq_true rfl) (Nat.le_of_ble_eq_true rfl) (Nat.le_of_ble_eq_true rfl) (Nat.le_of_ble_eq_true rfl) (fun h560 f561 w562 => ?_)
  obtain ⟨o563, -⟩ := w562
  refine x_if_ne (M := M_X12_ordinate) (tgt := 66) dX12_ordinate_22 (by decide) (fun _ => ?_) (fun q => absurd q (by decide +kernel))
  refine x_iconst (M := M_X12_ordinate) dX12_ordinate_66 ?_
  exact x_iret (M := M_X12_ordinate) dX12_ordinate_67 rfl ⟨rfl, (fr_tr f561 (by decide) (fr_tr f559 (by decide) fr_rf)), ⟨o563, trivial⟩⟩ (Nat.le_of_ble_eq_true rfl) (Nat.le_of_ble_eq_true rfl)
set_option maxRecDepth 10000 in
theorem lc27_0 {l : Launch} {E : EE} (hl : l.stackTraces = false) (nm : String) {xs : Nat → Int32} (hx : E.2.2.2.2 0 = some (7, xs)) {h : HP} {a0 : Int32} {a1 : Int32} {a2 : Int32} {dg : Int32} (e2 : xs 2 = a0) (e3 : xs 3 = a1) (e4 : xs 4 = a2) (c0 : a0.toInt < 0) (o552 : ob h 32 = some (.inr (14, [.ref 33, .ref 162, .ref 166, .int (0 : Int32), .int (0 : Int32), .int (0 : Int32), .ref 167, .ref 170, .ref 173, .ref 177, .ref 193, .ref 208, .ref 222, .ref 238, .ref 252, .ref 274, .ref 275, .ref 276, .int (0 : Int32)]))) (o565 : ob h 277 = some (.inr (15, (RB dg)))) : XX l E (M_law nm) 1312 342628 8074320 (fun o _ => o = .inl (some (.int 1))) 2005 [some (.ref 0), some (.ref 32), some (.ref 277), some (.ref 359), some (.int (Int32.ofInt 1)), none, none, none] [] h 328 2463747 := by
  refine x_aload_n (M := (M_law nm)) dL_law_2005 rfl ?_
  refine x_aload_n (M := (M_law nm)) dL_law_2006 rfl ?_
  refine x_iload (M := (M_law nm)) dL_law_2007 rfl ?_
  refine x_iconst (M := (M_law nm)) dL_law_2009 ?_
  refine x_iadd (M := (M_law nm)) dL_law_2010 ?_
  refine x_sald (M := (M_law nm)) dL_law_2011 (by decide) hx (vp_inD (by decide +kernel)) ?_
  refine x_top (M := (M_law nm)) (y := a0) ((congrArg xs (by decide +kernel : ((Int32.ofInt 1) + (Int32.ofInt 1)).toNatClampNeg = 2)).trans e2) ?_
  refine x_aload_n (M := (M_law nm)) dL_law_2012 rfl ?_
  refine x_iload (M := (M_law nm)) dL_law_2013 rfl ?_
  refine x_iconst (M := (M_law nm)) dL_law_2015 ?_
  refine x_iadd (M := (M_law nm)) dL_law_2016 ?_
  refine x_sald (M := (M_law nm)) dL_law_2017 (by decide) hx (vp_inD (by decide +kernel)) ?_
  refine x_top (M := (M_law nm)) (y := a1) ((congrArg xs (by decide +kernel : ((Int32.ofInt 1) + (Int32.ofInt 2)).toNatClampNeg = 3)).trans e3) ?_
  refine x_aload_n (M := (M_law nm)) dL_law_2018 rfl ?_
  refine x_iload (M := (M_law nm)) dL_law_2019 rfl ?_
  refine x_iconst (M := (M_law nm)) dL_law_2021 ?_
  refine x_iadd (M := (M_law nm)) dL_law_2022 ?_
  refine x_sald (M := (M_law nm)) dL_law_2023 (by decide) hx (vp_inD (by decide +kernel)) ?_
  refine x_top (M := (M_law nm)) (y := a2) ((congrArg xs (by decide +kernel : ((Int32.ofInt 1) + (Int32.ofInt 3)).toNatClampNeg = 4)).trans e4) ?_
  refine x_aload_n (M := (M_law nm)) dL_law_2024 rfl ?_
  refine y_callSW (M := (M_law nm)) (M' := M_L_ordinate) rfl rfl dL_law_2025 m_L_ordinate t_2284 t_2285 (q551 hl c0 o552) rfl rfl (Nat.le_of_ble_eq_true rfl) (Nat.le_of_ble_eq_true rfl) (Nat.le_of_ble_eq_true rfl) (Nat.le_of_ble_eq_true rfl) (fun h553 f554 w555 => ?_)
  refine x_istore (M := (M_law nm)) dL_law_2028 (Nat.le_of_ble_eq_true rfl) rfl ?_
  refine x_aload_n (M := (M_law nm)) dL_law_2030 rfl ?_
  refine x_aload_n (M := (M_law nm)) dL_law_2031 rfl ?_
  refine x_iload (M := (M_law nm)) dL_law_2032 rfl ?_
  refine x_iconst (M := (M_law nm)) dL_law_2034 ?_
  refine x_iadd (M := (M_law nm)) dL_law_2035 ?_
  refine x_sald (M := (M_law nm)) dL_law_2036 (by decide) hx (vp_inD (by decide +kernel)) ?_
  refine x_top (M := (M_law nm)) (y := a0) ((congrArg xs (by decide +kernel : ((Int32.ofInt 1) + (Int32.ofInt 1)).toNatClampNeg = 2)).trans e2) ?_
  refine x_aload_n (M := (M_law nm)) dL_law_2037 rfl ?_
  refine x_iload (M := (M_law nm)) dL_law_2038 rfl ?_
  refine x_iconst (M := (M_law nm)) dL_law_2040 ?_
  refine x_iadd (M := (M_law nm)) dL_law_2041 ?_
  refine x_sald (M := (M_law nm)) dL_law_2042 (by decide) hx (vp_inD (by decide +kernel)) ?_
  refine x_top (M := (M_law nm)) (y := a1) ((congrArg xs (by decide +kernel : ((Int32.ofInt 1) + (Int32.ofInt 2)).toNatClampNeg = 3)).trans e3) ?_
  refine x_aload_n (M := (M_law nm)) dL_law_2043 rfl ?_
  refine x_iload (M := (M_law nm)) dL_law_2044 rfl ?_
  refine x_iconst (M := (M_law nm)) dL_law_2046 ?_
  refine x_iadd (M := (M_law nm)) dL_law_2047 ?_
  refine x_sald (M := (M_law nm)) dL_law_2048 (by decide) hx (vp_inD (by decide +kernel)) ?_
  refine x_top (M := (M_law nm)) (y := a2) ((congrArg xs (by decide +kernel : ((Int32.ofInt 1) + (Int32.ofInt 3)).toNatClampNeg = 4)).trans e4) ?_
  have o566 := (f554 277 _ (by decide) o565)
  refine y_callVR (M := (M_law nm)) (M' := M_X12_ordinate) rfl rfl dL_law_2049 m_X12_ordinate t_3110 t_3111 t_3112 (q564 hl c0 o566) rfl rfl o566 rfl (Nat.le_of_ble_eq_true rfl) (Nat.le_of_ble_eq_true rfl) (Nat.le_of_ble_eq_true rfl) (Nat.le_of_ble_eq_true rfl) (fun h567 f568 w569 => ?_)
  obtain ⟨o570, -⟩ := w569
  refine x_istore (M := (M_law nm)) dL_law_2052 (Nat.le_of_ble_eq_true rfl) rfl ?_
  refine x_aload_n (M := (M_law nm)) dL_law_2054 rfl ?_
  refine x_callVR (M := (M_law nm)) (M' := M_X12_thrown) rfl rfl dL_law_2055 m_X12_thrown t_2797 t_2798 t_2799 (q35 hl o570) rfl rfl o570 rfl (Nat.le_of_ble_eq_true rfl) (Nat.le_of_ble_eq_true rfl) (Nat.le_of_ble_eq_true rfl) (Nat.le_of_ble_eq_true rfl) ?_
  refine x_iload (M := (M_law nm)) dL_law_2058 rfl ?_
  refine x_icmp_eq (M := (M_law nm)) (tgt := 2065) dL_law_2060 (by decide) (fun _ => ?_) (fun q => absurd q (by decide +kernel))
  refine x_iload (M := (M_law nm)) dL_law_2065 rfl ?_
  refine x_if_ne (M := (M_law nm)) (tgt := 2082) dL_law_2067 (by decide) (fun _ => ?_) (fun q => absurd q (by decide +kernel))
  refine x_goto (M := (M_law nm)) (tgt := 2449) dL_law_2082 (by decide) ?_
  refine x_iinc (M := (M_law nm)) dL_law_2449 rfl (Nat.le_of_ble_eq_true rfl) rfl ?_
  refine x_lvs (M := (M_law nm)) (lv' := [some (.ref 0), some (.ref 32), some (.ref 277), some (.ref 359), some (.int (Int32.ofInt 7)), some (.int (Int32.ofInt 1)), some (.int (Int32.ofInt 0)), none]) (by rw [(by decide +kernel : (Int32.ofInt 1) + Int32.ofInt 6 = (Int32.ofInt 7))] <;> rfl) ?_
  refine x_goto (M := (M_law nm)) (tgt := 33) dL_law_2452 (by decide) ?_
  refine x_iload (M := (M_law nm)) dL_law_33 rfl ?_
  refine x_aload_n (M := (M_law nm)) dL_law_35 rfl ?_
  refine x_slen (M := (M_law nm)) dL_law_36 (by decide) hx ?_
  refine x_bipush (M := (M_law nm)) dL_law_37 ?_
  refine x_isub (M := (M_law nm)) dL_law_39 ?_
  refine x_icmp_gt (M := (M_law nm)) (tgt := 2455) dL_law_40 (by decide) (fun _ => ?_) (fun q => absurd q (by decide +kernel))
  refine x_iconst (M := (M_law nm)) dL_law_2455 ?_
  exact x_zret (M := (M_law nm)) dL_law_2456 rfl (by decide) rfl (Nat.le_of_ble_eq_true rfl) (Nat.le_of_ble_eq_true rfl)
set_option maxRecDepth 10000 in
theorem q576 {l : Launch} {E : EE} (hl : l.stackTraces = false) {h : HP} {a0 : Int32} {a1 : Int32} {a2 : Int32} (c0 : ¬ (a0.toInt < 0)) (c1 : a0.toInt < 32) (c2 : a1.toInt < 0) (o573 : ob h 32 = some (.inr (14, [.ref 33, .ref 162, .ref 166, .int (0 : Int32), .int (0 : Int32), .int (0 : Int32), .ref 167, .ref 170, .ref 173, .ref 177, .ref 193, .ref 208, .ref 222, .ref 238, .ref 252, .ref 274, .ref 275, .ref 276, .int (0 : Int32)]))) (o574 : ob h 33 = some (.inl (4, 32, .inr (.inr (.inr (.inr (shf 1 32))))))) : en_C l E M_X11_ordinate 6 1 6 [.ref 32, .int a0, .int a1, .int a2] h (pT "java/lang/IndexOutOfBoundsException" [] h (fun _ => True)) := by
  refine en_mk m_X11_ordinate rfl hl (Nat.le_of_ble_eq_true rfl) ?_
  refine x_aload_n (M := M_X11_ordinate) dX11_ordinate_0 rfl ?_
  refine x_iload_n (M := M_X11_ordinate) dX11_ordinate_1 rfl ?_
  refine x_callVR (M := M_X11_ordinate) (M' := M_X11_slotNumbered) rfl rfl dX11_ordinate_2 m_X11_slotNumbered t_744 t_746 s_2 (q425 hl c0 c1 o573 o574) rfl rfl o573 rfl (Nat.le_of_ble_eq_true rfl) (Nat.le_of_ble_eq_true rfl) (Nat.le_of_ble_eq_true rfl) (Nat.le_of_ble_eq_true rfl) ?_
  refine x_astore (M := M_X11_ordinate) dX11_ordinate_5 (Nat.le_of_ble_eq_true rfl) rfl ?_
  refine x_iload_n (M := M_X11_ordinate) dX11_ordinate_7 rfl ?_
  refine x_if_lt (M := M_X11_ordinate) (tgt := 29) dX11_ordinate_8 (by decide) (fun _ => ?_) (fun q => absurd ((bi_lt rfl (by decide +kernel)).mpr (by omega : (a1.toInt < 0 : Prop))) q)
  exact x_throw (M := M_X11_ordinate) (names := en_nm) rfl dX11_ordinate_29 dX11_ordinate_32 dX11_ordinate_33 dX11_ordinate_36 (by decide +kernel) en_nm_ok (Or.inl t_748) (Or.inl t_22) (at_X11_IndexOutOfBoundsException_139) (Nat.le_of_ble_eq_true rfl) (Nat.le_of_ble_eq_true rfl) (Nat.le_of_ble_eq_true rfl) (Nat.le_of_ble_eq_true rfl) (fun n9 => ⟨rfl, (fr_tr (fr_app (List.replicate n9 none)) (fun _ h => nomatch h) fr_rf), trivial⟩)
set_option maxRecDepth 10000 in
theorem q582 {l : Launch} {E : EE} (hl : l.stackTraces = false) {h : HP} {a0 : Int32} {a1 : Int32} {a2 : Int32} (c0 : ¬ (a0.toInt < 0)) (c1 : a0.toInt < 32) (c2 : a1.toInt < 0) (o577 : ob h 32 = some (.inr (14, [.ref 33, .ref 162, .ref 166, .int (0 : Int32), .int (0 : Int32), .int (0 : Int32), .ref 167, .ref 170, .ref 173, .ref 177, .ref 193, .ref 208, .ref 222, .ref 238, .ref 252, .ref 274, .ref 275, .ref 276, .int (0 : Int32)]))) (o578 : ob h 33 = some (.inl (4, 32, .inr (.inr (.inr (.inr (shf 1 32))))))) : en_C l E M_L_ordinate 7 1 6 [.ref 32, .int a0, .int a1, .int a2, .ref 359] h (pF (some (.int (Int32.ofInt 1))) [] h (fun _ => True)) := by
  refine en_mkW m_L_ordinate rfl hl (Nat.le_of_ble_eq_true rfl) ?_
  refine x_aload (M := M_L_ordinate) dL_ordinate_0 rfl ?_
  refine x_iconst (M := M_L_ordinate) dL_ordinate_2 ?_
  refine x_aload_n (M := M_L_ordinate) dL_ordinate_3 rfl ?_
  refine x_iload_n (M := M_L_ordinate) dL_ordinate_4 rfl ?_
  refine x_iload_n (M := M_L_ordinate) dL_ordinate_5 rfl ?_
  refine x_iload_n (M := M_L_ordinate) dL_ordinate_6 rfl ?_
  refine y_callVHX (M := M_L_ordinate) (M' := M_X11_ordinate) (i9 := 5) (nx := 17) rfl dL_ordinate_7 m_X11_ordinate t_2287 t_2288 t_2289 o577 rfl (q576 hl c0 c1 c2 o577 o578) rfl rfl (Nat.le_of_ble_eq_true rfl) (Nat.le_of_ble_eq_true rfl) (Nat.le_of_ble_eq_true rfl) (Nat.le_of_ble_eq_true rfl) (en_hdm (k0 := 5) [] [] rfl (fun _ h => nomatch h) (by decide +kernel) (by decide) t_739 n_750 dL_ordinate_15) (by decide) rfl (fun h579 f580 w581 => ?_)
  refine x_iconst (M := M_L_ordinate) dL_ordinate_17 ?_
  exact x_iret (M := M_L_ordinate) dL_ordinate_18 rfl ⟨rfl, (fr_tr f580 (fun _ h => nomatch h) fr_rf), trivial⟩ (Nat.le_of_ble_eq_true rfl) (Nat.le_of_ble_eq_true rfl)
set_option maxRecDepth 10000 in
theorem q602 {l : Launch} {E : EE} (hl : l.stackTraces = false) {h : HP} {a0 : Int32} {a1 : Int32} {a2 : Int32} {dg : Int32} (c0 : ¬ (a0.toInt < 0)) (c1 : a0.toInt < 32) (c2 : a1.toInt < 0) (o588 : ob h 277 = some (.inr (15, (RB dg)))) (o596 : ob h 282 = some (.inl (0, 33, .inl (fun _ => 0)))) : en_C l E M_X12_ordinate 1 0 0 [.ref 277, .int a0, .int a1, .int a2] h (pF (some (.int (Int32.ofInt 0))) [277] h (fun h' => ob h' 277 = some (.inr (15, ((RB dg).set 0 (.int (Int32.ofInt 1))))) ∧ True)) := by
  refine en_mk m_X12_ordinate rfl hl (Nat.le_of_ble_eq_true rfl) ?_
  refine x_aload_n (M := M_X12_ordinate) dX12_ordinate_0 rfl ?_
  refine x_iconst (M := M_X12_ordinate) dX12_ordinate_1 ?_
  refine y_put (M := M_X12_ordinate) (ci := 15) (C := RX12) (T := TX12) (N := 135) (ty := tyX12) cl15 dX12_ordinate_2 o588 0 (by decide) t_2391 (Or.inl rfl) (Nat.le_of_ble_eq_true rfl) rfl (fun h589 w590 f591 => ?_)
  refine x_aload_n (M := M_X12_ordinate) dX12_ordinate_5 rfl ?_
  refine x_iload_n (M := M_X12_ordinate) dX12_ordinate_6 rfl ?_
  refine x_callSR (M := M_X12_ordinate) (M' := M_X12_isSlot) rfl rfl dX12_ordinate_7 m_X12_isSlot t_2841 t_2842 (q447 hl c0 c1) rfl rfl (Nat.le_of_ble_eq_true rfl) (Nat.le_of_ble_eq_true rfl) (Nat.le_of_ble_eq_true rfl) (Nat.le_of_ble_eq_true rfl) ?_
  refine x_if_ne (M := M_X12_ordinate) (tgt := 17) dX12_ordinate_10 (by decide) (fun _ => ?_) (fun q => absurd q (by decide +kernel))
  refine x_iconst (M := M_X12_ordinate) dX12_ordinate_17 ?_
  refine x_iconst (M := M_X12_ordinate) dX12_ordinate_18 ?_
  refine y_callVR (M := M_X12_ordinate) (M' := M_X12_fails) rfl rfl dX12_ordinate_19 m_X12_fails t_2805 t_2807 s_157 (q241 hl w590) rfl rfl w590 rfl (Nat.le_of_ble_eq_true rfl) (Nat.le_of_ble_eq_true rfl) (Nat.le_of_ble_eq_true rfl) (Nat.le_of_ble_eq_true rfl) (fun h592 f593 w594 => ?_)
  obtain ⟨o595, -⟩ := w594
  refine x_if_ne (M := M_X12_ordinate) (tgt := 66) dX12_ordinate_22 (by decide) (fun q => absurd q (by decide +kernel)) (fun _ => ?_)
  refine x_aload_n (M := M_X12_ordinate) dX12_ordinate_25 rfl ?_
  refine x_iload_n (M := M_X12_ordinate) dX12_ordinate_26 rfl ?_
  refine x_i2l (M := M_X12_ordinate) dX12_ordinate_27 ?_
  refine x_lconst (M := M_X12_ordinate) dX12_ordinate_28 ?_
  refine x_aload_n (M := M_X12_ordinate) dX12_ordinate_29 rfl ?_
  refine x_getf (M := M_X12_ordinate) (ci := 15) (C := RX12) (T := TX12) (N := 135) (ty := tyX12) cl15 dX12_ordinate_30 o595 11 (by decide) t_2402 (v := .ref 282) rfl ?_
  refine x_iload_n (M := M_X12_ordinate) dX12_ordinate_33 rfl ?_
  have o597 := (f593 282 _ (by decide) (f591 282 _ (by decide) o596))
  refine x_iald (M := M_X12_ordinate) dX12_ordinate_34 o597 (vp_in_s (by omega) (by omega)) ?_
  refine x_top (M := M_X12_ordinate) (y := (Int32.ofInt 0)) rfl ?_
  refine x_iconst (M := M_X12_ordinate) dX12_ordinate_35 ?_
  refine x_isub (M := M_X12_ordinate) dX12_ordinate_36 ?_
  refine x_i2l (M := M_X12_ordinate) dX12_ordinate_37 ?_
  refine x_norm (M := M_X12_ordinate) (st' := [.long (Int64.ofInt (-1)), .long (Int64.ofInt 0), .long (a1.toInt64), .ref 277]) rfl (vj_cons (by decide +kernel : (((Int32.ofInt 0) - (Int32.ofInt 1)).toInt64) = (Int64.ofInt (-1))) (vj_cons (by decide +kernel : (Int64.ofNat ((0 : Fin 2) : Nat)) = (Int64.ofInt 0)) rfl)) rfl rfl rfl ?_
  refine x_callSR (M := M_X12_ordinate) (M' := M_X12_in) rfl rfl dX12_ordinate_38 m_X12_in t_2818 t_2819 (q454 hl c2) rfl rfl (Nat.le_of_ble_eq_true rfl) (Nat.le_of_ble_eq_true rfl) (Nat.le_of_ble_eq_true rfl) (Nat.le_of_ble_eq_true rfl) ?_
  refine x_if_eq (M := M_X12_ordinate) (tgt := 54) dX12_ordinate_41 (by decide) (fun _ => ?_) (fun q => absurd q (by decide +kernel))
  refine x_iconst (M := M_X12_ordinate) dX12_ordinate_54 ?_
  refine x_goto (M := M_X12_ordinate) (tgt := 59) dX12_ordinate_55 (by decide) ?_
  refine x_iconst (M := M_X12_ordinate) dX12_ordinate_59 ?_
  refine y_callVR (M := M_X12_ordinate) (M' := M_X12_fails) rfl rfl dX12_ordinate_60 m_X12_fails t_2805 t_2807 s_157 (q22 hl o595) rfl rfl o595 rfl (Nat.le_of_ble_eq_true rfl) (Nat.le_of_ble_eq_true rfl) (Nat.le_of_ble_eq_true rfl) (Nat.le_of_ble_eq_true rfl) (fun h598 f599 w600 => ?_)
  obtain ⟨o601, -⟩ := w600
  refine x_if_eq (M := M_X12_ordinate) (tgt := 68) dX12_ordinate_63 (by decide) (fun q => absurd q (by decide +kernel)) (fun _ => ?_)
  refine x_iconst (M := M_X12_ordinate) dX12_ordinate_66 ?_
  exact x_iret (M := M_X12_ordinate) dX12_ordinate_67 rfl ⟨rfl, (fr_tr f599 (by decide) (fr_tr f593 (by decide) (fr_tr f591 (by decide) fr_rf))), ⟨o601, trivial⟩⟩ (Nat.le_of_ble_eq_true rfl) (Nat.le_of_ble_eq_true rfl)
set_option maxRecDepth 10000 in
theorem lc27_1 {l : Launch} {E : EE} (hl : l.stackTraces = false) (nm : String) {xs : Nat → Int32} (hx : E.2.2.2.2 0 = some (7, xs)) {h : HP} {a0 : Int32} {a1 : Int32} {a2 : Int32} {dg : Int32} (e2 : xs 2 = a0) (e3 : xs 3 = a1) (e4 : xs 4 = a2) (c0 : ¬ (a0.toInt < 0)) (c1 : a0.toInt < 32) (c2 : a1.toInt < 0) (o583 : ob h 32 = some (.inr (14, [.ref 33, .ref 162, .ref 166, .int (0 : Int32), .int (0 : Int32), .int (0 : Int32), .ref 167, .ref 170, .ref 173, .ref 177, .ref 193, .ref 208, .ref 222, .ref 238, .ref 252, .ref 274, .ref 275, .ref 276, .int (0 : Int32)]))) (o584 : ob h 33 = some (.inl (4, 32, .inr (.inr (.inr (.inr (shf 1 32))))))) (o603 : ob h 277 = some (.inr (15, (RB dg)))) (o605 : ob h 282 = some (.inl (0, 33, .inl (fun _ => 0)))) : XX l E (M_law nm) 1312 342628 8074320 (fun o _ => o = .inl (some (.int 1))) 2005 [some (.ref 0), some (.ref 32), some (.ref 277), some (.ref 359), some (.int (Int32.ofInt 1)), none, none, none] [] h 328 2463747 := by
  refine x_aload_n (M := (M_law nm)) dL_law_2005 rfl ?_
  refine x_aload_n (M := (M_law nm)) dL_law_2006 rfl ?_
  refine x_iload (M := (M_law nm)) dL_law_2007 rfl ?_
  refine x_iconst (M := (M_law nm)) dL_law_2009 ?_
  refine x_iadd (M := (M_law nm)) dL_law_2010 ?_
  refine x_sald (M := (M_law nm)) dL_law_2011 (by decide) hx (vp_inD (by decide +kernel)) ?_
  refine x_top (M := (M_law nm)) (y := a0) ((congrArg xs (by decide +kernel : ((Int32.ofInt 1) + (Int32.ofInt 1)).toNatClampNeg = 2)).trans e2) ?_
  refine x_aload_n (M := (M_law nm)) dL_law_2012 rfl ?_
  refine x_iload (M := (M_law nm)) dL_law_2013 rfl ?_
  refine x_iconst (M := (M_law nm)) dL_law_2015 ?_
  refine x_iadd (M := (M_law nm)) dL_law_2016 ?_
  refine x_sald (M := (M_law nm)) dL_law_2017 (by decide) hx (vp_inD (by decide +kernel)) ?_
  refine x_top (M := (M_law nm)) (y := a1) ((congrArg xs (by decide +kernel : ((Int32.ofInt 1) + (Int32.ofInt 2)).toNatClampNeg = 3)).trans e3) ?_
  refine x_aload_n (M := (M_law nm)) dL_law_2018 rfl ?_
  refine x_iload (M := (M_law nm)) dL_law_2019 rfl ?_
  refine x_iconst (M := (M_law nm)) dL_law_2021 ?_
  refine x_iadd (M := (M_law nm)) dL_law_2022 ?_
  refine x_sald (M := (M_law nm)) dL_law_2023 (by decide) hx (vp_inD (by decide +kernel)) ?_
  refine x_top (M := (M_law nm)) (y := a2) ((congrArg xs (by decide +kernel : ((Int32.ofInt 1) + (Int32.ofInt 3)).toNatClampNeg = 4)).trans e4) ?_
  refine x_aload_n (M := (M_law nm)) dL_law_2024 rfl ?_
  refine y_callSW (M := (M_law nm)) (M' := M_L_ordinate) rfl rfl dL_law_2025 m_L_ordinate t_2284 t_2285 (q582 hl c0 c1 c2 o583 o584) rfl rfl (Nat.le_of_ble_eq_true rfl) (Nat.le_of_ble_eq_true rfl) (Nat.le_of_ble_eq_true rfl) (Nat.le_of_ble_eq_true rfl) (fun h585 f586 w587 => ?_)
  refine x_istore (M := (M_law nm)) dL_law_2028 (Nat.le_of_ble_eq_true rfl) rfl ?_
  refine x_aload_n (M := (M_law nm)) dL_law_2030 rfl ?_
  refine x_aload_n (M := (M_law nm)) dL_law_2031 rfl ?_
  refine x_iload (M := (M_law nm)) dL_law_2032 rfl ?_
  refine x_iconst (M := (M_law nm)) dL_law_2034 ?_
  refine x_iadd (M := (M_law nm)) dL_law_2035 ?_
  refine x_sald (M := (M_law nm)) dL_law_2036 (by decide) hx (vp_inD (by decide +kernel)) ?_
  refine x_top (M := (M_law nm)) (y := a0) ((congrArg xs (by decide +kernel : ((Int32.ofInt 1) + (Int32.ofInt 1)).toNatClampNeg = 2)).trans e2) ?_
  refine x_aload_n (M := (M_law nm)) dL_law_2037 rfl ?_
  refine x_iload (M := (M_law nm)) dL_law_2038 rfl ?_
  refine x_iconst (M := (M_law nm)) dL_law_2040 ?_
  refine x_iadd (M := (M_law nm)) dL_law_2041 ?_
  refine x_sald (M := (M_law nm)) dL_law_2042 (by decide) hx (vp_inD (by decide +kernel)) ?_
  refine x_top (M := (M_law nm)) (y := a1) ((congrArg xs (by decide +kernel : ((Int32.ofInt 1) + (Int32.ofInt 2)).toNatClampNeg = 3)).trans e3) ?_
  refine x_aload_n (M := (M_law nm)) dL_law_2043 rfl ?_
  refine x_iload (M := (M_law nm)) dL_law_2044 rfl ?_
  refine x_iconst (M := (M_law nm)) dL_law_2046 ?_
  refine x_iadd (M := (M_law nm)) dL_law_2047 ?_
  refine x_sald (M := (M_law nm)) dL_law_2048 (by decide) hx (vp_inD (by decide +kernel)) ?_
  refine x_top (M := (M_law nm)) (y := a2) ((congrArg xs (by decide +kernel : ((Int32.ofInt 1) + (Int32.ofInt 3)).toNatClampNeg = 4)).trans e4) ?_
  have o604 := (f586 277 _ (by decide) o603)
  have o606 := (f586 282 _ (by decide) o605)
  refine y_callVR (M := (M_law nm)) (M' := M_X12_ordinate) rfl rfl dL_law_2049 m_X12_ordinate t_3110 t_3111 t_3112 (q602 hl c0 c1 c2 o604 o606) rfl rfl o604 rfl (Nat.le_of_ble_eq_true rfl) (Nat.le_of_ble_eq_true rfl) (Nat.le_of_ble_eq_true rfl) (Nat.le_of_ble_eq_true rfl) (fun h607 f608 w609 => ?_)
  obtain ⟨o610, -⟩ := w609
  refine x_istore (M := (M_law nm)) dL_law_2052 (Nat.le_of_ble_eq_true rfl) rfl ?_
  refine x_aload_n (M := (M_law nm)) dL_law_2054 rfl ?_
  refine x_callVR (M := (M_law nm)) (M' := M_X12_thrown) rfl rfl dL_law_2055 m_X12_thrown t_2797 t_2798 t_2799 (q35 hl o610) rfl rfl o610 rfl (Nat.le_of_ble_eq_true rfl) (Nat.le_of_ble_eq_true rfl) (Nat.le_of_ble_eq_true rfl) (Nat.le_of_ble_eq_true rfl) ?_
  refine x_iload (M := (M_law nm)) dL_law_2058 rfl ?_
  refine x_icmp_eq (M := (M_law nm)) (tgt := 2065) dL_law_2060 (by decide) (fun _ => ?_) (fun q => absurd q (by decide +kernel))
  refine x_iload (M := (M_law nm)) dL_law_2065 rfl ?_
  refine x_if_ne (M := (M_law nm)) (tgt := 2082) dL_law_2067 (by decide) (fun _ => ?_) (fun q => absurd q (by decide +kernel))
  refine x_goto (M := (M_law nm)) (tgt := 2449) dL_law_2082 (by decide) ?_
  refine x_iinc (M := (M_law nm)) dL_law_2449 rfl (Nat.le_of_ble_eq_true rfl) rfl ?_
  refine x_lvs (M := (M_law nm)) (lv' := [some (.ref 0), some (.ref 32), some (.ref 277), some (.ref 359), some (.int (Int32.ofInt 7)), some (.int (Int32.ofInt 1)), some (.int (Int32.ofInt 0)), none]) (by rw [(by decide +kernel : (Int32.ofInt 1) + Int32.ofInt 6 = (Int32.ofInt 7))] <;> rfl) ?_
  refine x_goto (M := (M_law nm)) (tgt := 33) dL_law_2452 (by decide) ?_
  refine x_iload (M := (M_law nm)) dL_law_33 rfl ?_
  refine x_aload_n (M := (M_law nm)) dL_law_35 rfl ?_
  refine x_slen (M := (M_law nm)) dL_law_36 (by decide) hx ?_
  refine x_bipush (M := (M_law nm)) dL_law_37 ?_
  refine x_isub (M := (M_law nm)) dL_law_39 ?_
  refine x_icmp_gt (M := (M_law nm)) (tgt := 2455) dL_law_40 (by decide) (fun _ => ?_) (fun q => absurd q (by decide +kernel))
  refine x_iconst (M := (M_law nm)) dL_law_2455 ?_
  exact x_zret (M := (M_law nm)) dL_law_2456 rfl (by decide) rfl (Nat.le_of_ble_eq_true rfl) (Nat.le_of_ble_eq_true rfl)
set_option maxRecDepth 10000 in
theorem q615 {l : Launch} {E : EE} (hl : l.stackTraces = false) {h : HP} {a0 : Int32} {a1 : Int32} {a2 : Int32} (c0 : ¬ (a0.toInt < 0)) (c1 : a0.toInt < 32) (c2 : ¬ (a1.toInt < 0)) (o611 : ob h 32 = some (.inr (14, [.ref 33, .ref 162, .ref 166, .int (0 : Int32), .int (0 : Int32), .int (0 : Int32), .ref 167, .ref 170, .ref 173, .ref 177, .ref 193, .ref 208, .ref 222, .ref 238, .ref 252, .ref 274, .ref 275, .ref 276, .int (0 : Int32)]))) (o612 : ob h 33 = some (.inl (4, 32, .inr (.inr (.inr (.inr (shf 1 32))))))) (o613 : ob h (34 + 4 * a0.toNatClampNeg) = some (.inr (9, [.ref (35 + 4 * a0.toNatClampNeg), .ref (36 + 4 * a0.toNatClampNeg), .ref (37 + 4 * a0.toNatClampNeg), .int (0 : Int32), .int (0 : Int32)]))) : en_C l E M_X11_ordinate 6 1 6 [.ref 32, .int a0, .int a1, .int a2] h (pT "java/lang/IndexOutOfBoundsException" [] h (fun _ => True)) := by
  have n_a0 : a0.toNatClampNeg < 32 := nc_lt (by omega) (by decide)
  refine en_mk m_X11_ordinate rfl hl (Nat.le_of_ble_eq_true rfl) ?_
  refine x_aload_n (M := M_X11_ordinate) dX11_ordinate_0 rfl ?_
  refine x_iload_n (M := M_X11_ordinate) dX11_ordinate_1 rfl ?_
  refine x_callVR (M := M_X11_ordinate) (M' := M_X11_slotNumbered) rfl rfl dX11_ordinate_2 m_X11_slotNumbered t_744 t_746 s_2 (q425 hl c0 c1 o611 o612) rfl rfl o611 rfl (Nat.le_of_ble_eq_true rfl) (Nat.le_of_ble_eq_true rfl) (Nat.le_of_ble_eq_true rfl) (Nat.le_of_ble_eq_true rfl) ?_
  refine x_astore (M := M_X11_ordinate) dX11_ordinate_5 (Nat.le_of_ble_eq_true rfl) rfl ?_
  refine x_iload_n (M := M_X11_ordinate) dX11_ordinate_7 rfl ?_
  refine x_if_lt (M := M_X11_ordinate) (tgt := 29) dX11_ordinate_8 (by decide) (fun q => absurd ((bi_lt rfl (by decide +kernel)).mp q) (by omega : ¬ (a1.toInt < 0))) (fun _ => ?_)
  refine x_iload_n (M := M_X11_ordinate) dX11_ordinate_11 rfl ?_
  refine x_aload (M := M_X11_ordinate) dX11_ordinate_12 rfl ?_
  refine x_getf (M := M_X11_ordinate) (ci := 9) (C := RX6) (T := TX6) (N := 5) (ty := tyX6) cl9 dX11_ordinate_14 o613 4 (by decide) t_85 (v := .int (0 : Int32)) rfl ?_
  refine x_icmp_ge (M := M_X11_ordinate) (tgt := 29) dX11_ordinate_17 (by decide) (fun _ => ?_) (fun q => absurd ((bi_le (by decide +kernel) rfl).mpr (by omega : (0 ≤ a1.toInt : Prop))) q)
  exact x_throw (M := M_X11_ordinate) (names := en_nm) rfl dX11_ordinate_29 dX11_ordinate_32 dX11_ordinate_33 dX11_ordinate_36 (by decide +kernel) en_nm_ok (Or.inl t_748) (Or.inl t_22) (at_X11_IndexOutOfBoundsException_139) (Nat.le_of_ble_eq_true rfl) (Nat.le_of_ble_eq_true rfl) (Nat.le_of_ble_eq_true rfl) (Nat.le_of_ble_eq_true rfl) (fun n9 => ⟨rfl, (fr_tr (fr_app (List.replicate n9 none)) (fun _ h => nomatch h) fr_rf), trivial⟩)
set_option maxRecDepth 10000 in
theorem q622 {l : Launch} {E : EE} (hl : l.stackTraces = false) {h : HP} {a0 : Int32} {a1 : Int32} {a2 : Int32} (c0 : ¬ (a0.toInt < 0)) (c1 : a0.toInt < 32) (c2 : ¬ (a1.toInt < 0)) (o616 : ob h 32 = some (.inr (14, [.ref 33, .ref 162, .ref 166, .int (0 : Int32), .int (0 : Int32), .int (0 : Int32), .ref 167, .ref 170, .ref 173, .ref 177, .ref 193, .ref 208, .ref 222, .ref 238, .ref 252, .ref 274, .ref 275, .ref 276, .int (0 : Int32)]))) (o617 : ob h 33 = some (.inl (4, 32, .inr (.inr (.inr (.inr (shf 1 32))))))) (o618 : ob h (34 + 4 * a0.toNatClampNeg) = some (.inr (9, [.ref (35 + 4 * a0.toNatClampNeg), .ref (36 + 4 * a0.toNatClampNeg), .ref (37 + 4 * a0.toNatClampNeg), .int (0 : Int32), .int (0 : Int32)]))) : en_C l E M_L_ordinate 7 1 6 [.ref 32, .int a0, .int a1, .int a2, .ref 359] h (pF (some (.int (Int32.ofInt 1))) [] h (fun _ => True)) := by
  have n_a0 : a0.toNatClampNeg < 32 := nc_lt (by omega) (by decide)
  refine en_mkW m_L_ordinate rfl hl (Nat.le_of_ble_eq_true rfl) ?_
  refine x_aload (M := M_L_ordinate) dL_ordinate_0 rfl ?_
  refine x_iconst (M := M_L_ordinate) dL_ordinate_2 ?_
  refine x_aload_n (M := M_L_ordinate) dL_ordinate_3 rfl ?_
  refine x_iload_n (M := M_L_ordinate) dL_ordinate_4 rfl ?_
  refine x_iload_n (M := M_L_ordinate) dL_ordinate_5 rfl ?_
  refine x_iload_n (M := M_L_ordinate) dL_ordinate_6 rfl ?_
  refine y_callVHX (M := M_L_ordinate) (M' := M_X11_ordinate) (i9 := 5) (nx := 17) rfl dL_ordinate_7 m_X11_ordinate t_2287 t_2288 t_2289 o616 rfl (q615 hl c0 c1 c2 o616 o617 o618) rfl rfl (Nat.le_of_ble_eq_true rfl) (Nat.le_of_ble_eq_true rfl) (Nat.le_of_ble_eq_true rfl) (Nat.le_of_ble_eq_true rfl) (en_hdm (k0 := 5) [] [] rfl (fun _ h => nomatch h) (by decide +kernel) (by decide) t_739 n_750 dL_ordinate_15) (by decide) rfl (fun h619 f620 w621 => ?_)
  refine x_iconst (M := M_L_ordinate) dL_ordinate_17 ?_
  exact x_iret (M := M_L_ordinate) dL_ordinate_18 rfl ⟨rfl, (fr_tr f620 (fun _ h => nomatch h) fr_rf), trivial⟩ (Nat.le_of_ble_eq_true rfl) (Nat.le_of_ble_eq_true rfl)
set_option maxRecDepth 10000 in
theorem q643 {l : Launch} {E : EE} (hl : l.stackTraces = false) {h : HP} {a0 : Int32} {a1 : Int32} {a2 : Int32} {dg : Int32} (c0 : ¬ (a0.toInt < 0)) (c1 : a0.toInt < 32) (c2 : ¬ (a1.toInt < 0)) (o629 : ob h 277 = some (.inr (15, (RB dg)))) (o637 : ob h 282 = some (.inl (0, 33, .inl (fun _ => 0)))) : en_C l E M_X12_ordinate 1 0 0 [.ref 277, .int a0, .int a1, .int a2] h (pF (some (.int (Int32.ofInt 0))) [277] h (fun h' => ob h' 277 = some (.inr (15, ((RB dg).set 0 (.int (Int32.ofInt 1))))) ∧ True)) := by
  refine en_mk m_X12_ordinate rfl hl (Nat.le_of_ble_eq_true rfl) ?_
  refine x_aload_n (M := M_X12_ordinate) dX12_ordinate_0 rfl ?_
  refine x_iconst (M := M_X12_ordinate) dX12_ordinate_1 ?_
  refine y_put (M := M_X12_ordinate) (ci := 15) (C := RX12) (T := TX12) (N := 135) (ty := tyX12) cl15 dX12_ordinate_2 o629 0 (by decide) t_2391 (Or.inl rfl) (Nat.le_of_ble_eq_true rfl) rfl (fun h630 w631 f632 => ?_)
  refine x_aload_n (M := M_X12_ordinate) dX12_ordinate_5 rfl ?_
  refine x_iload_n (M := M_X12_ordinate) dX12_ordinate_6 rfl ?_
  refine x_callSR (M := M_X12_ordinate) (M' := M_X12_isSlot) rfl rfl dX12_ordinate_7 m_X12_isSlot t_2841 t_2842 (q447 hl c0 c1) rfl rfl (Nat.le_of_ble_eq_true rfl) (Nat.le_of_ble_eq_true rfl) (Nat.le_of_ble_eq_true rfl) (Nat.le_of_ble_eq_true rfl) ?_
  refine x_if_ne (M := M_X12_ordinate) (tgt := 17) dX12_ordinate_10 (by decide) (fun _ => ?_) (fun q => absurd q (by decide +kernel))
  refine x_iconst (M := M_X12_ordinate) dX12_ordinate_17 ?_
  refine x_iconst (M := M_X12_ordinate) dX12_ordinate_18 ?_
  refine y_callVR (M := M_X12_ordinate) (M' := M_X12_fails) rfl rfl dX12_ordinate_19 m_X12_fails t_2805 t_2807 s_157 (q241 hl w631) rfl rfl w631 rfl (Nat.le_of_ble_eq_true rfl) (Nat.le_of_ble_eq_true rfl) (Nat.le_of_ble_eq_true rfl) (Nat.le_of_ble_eq_true rfl) (fun h633 f634 w635 => ?_)
  obtain ⟨o636, -⟩ := w635
  refine x_if_ne (M := M_X12_ordinate) (tgt := 66) dX12_ordinate_22 (by decide) (fun q => absurd q (by decide +kernel)) (fun _ => ?_)
  refine x_aload_n (M := M_X12_ordinate) dX12_ordinate_25 rfl ?_
  refine x_iload_n (M := M_X12_ordinate) dX12_ordinate_26 rfl ?_
  refine x_i2l (M := M_X12_ordinate) dX12_ordinate_27 ?_
  refine x_lconst (M := M_X12_ordinate) dX12_ordinate_28 ?_
  refine x_aload_n (M := M_X12_ordinate) dX12_ordinate_29 rfl ?_
  refine x_getf (M := M_X12_ordinate) (ci := 15) (C := RX12) (T := TX12) (N := 135) (ty := tyX12) cl15 dX12_ordinate_30 o636 11 (by decide) t_2402 (v := .ref 282) rfl ?_
  refine x_iload_n (M := M_X12_ordinate) dX12_ordinate_33 rfl ?_
  have o638 := (f634 282 _ (by decide) (f632 282 _ (by decide) o637))
  refine x_iald (M := M_X12_ordinate) dX12_ordinate_34 o638 (vp_in_s (by omega) (by omega)) ?_
  refine x_top (M := M_X12_ordinate) (y := (Int32.ofInt 0)) rfl ?_
  refine x_iconst (M := M_X12_ordinate) dX12_ordinate_35 ?_
  refine x_isub (M := M_X12_ordinate) dX12_ordinate_36 ?_
  refine x_i2l (M := M_X12_ordinate) dX12_ordinate_37 ?_
  refine x_norm (M := M_X12_ordinate) (st' := [.long (Int64.ofInt (-1)), .long (Int64.ofInt 0), .long (a1.toInt64), .ref 277]) rfl (vj_cons (by decide +kernel : (((Int32.ofInt 0) - (Int32.ofInt 1)).toInt64) = (Int64.ofInt (-1))) (vj_cons (by decide +kernel : (Int64.ofNat ((0 : Fin 2) : Nat)) = (Int64.ofInt 0)) rfl)) rfl rfl rfl ?_
  refine x_callSR (M := M_X12_ordinate) (M' := M_X12_in) rfl rfl dX12_ordinate_38 m_X12_in t_2818 t_2819 (q496 hl c2) rfl rfl (Nat.le_of_ble_eq_true rfl) (Nat.le_of_ble_eq_true rfl) (Nat.le_of_ble_eq_true rfl) (Nat.le_of_ble_eq_true rfl) ?_
  refine x_if_eq (M := M_X12_ordinate) (tgt := 54) dX12_ordinate_41 (by decide) (fun _ => ?_) (fun q => absurd q (by decide +kernel))
  refine x_iconst (M := M_X12_ordinate) dX12_ordinate_54 ?_
  refine x_goto (M := M_X12_ordinate) (tgt := 59) dX12_ordinate_55 (by decide) ?_
  refine x_iconst (M := M_X12_ordinate) dX12_ordinate_59 ?_
  refine y_callVR (M := M_X12_ordinate) (M' := M_X12_fails) rfl rfl dX12_ordinate_60 m_X12_fails t_2805 t_2807 s_157 (q22 hl o636) rfl rfl o636 rfl (Nat.le_of_ble_eq_true rfl) (Nat.le_of_ble_eq_true rfl) (Nat.le_of_ble_eq_true rfl) (Nat.le_of_ble_eq_true rfl) (fun h639 f640 w641 => ?_)
  obtain ⟨o642, -⟩ := w641
  refine x_if_eq (M := M_X12_ordinate) (tgt := 68) dX12_ordinate_63 (by decide) (fun q => absurd q (by decide +kernel)) (fun _ => ?_)
  refine x_iconst (M := M_X12_ordinate) dX12_ordinate_66 ?_
  exact x_iret (M := M_X12_ordinate) dX12_ordinate_67 rfl ⟨rfl, (fr_tr f640 (by decide) (fr_tr f634 (by decide) (fr_tr f632 (by decide) fr_rf))), ⟨o642, trivial⟩⟩ (Nat.le_of_ble_eq_true rfl) (Nat.le_of_ble_eq_true rfl)
set_option maxRecDepth 10000 in
theorem lc27_2 {l : Launch} {E : EE} (hl : l.stackTraces = false) (nm : String) {xs : Nat → Int32} (hx : E.2.2.2.2 0 = some (7, xs)) {h : HP} {a0 : Int32} {a1 : Int32} {a2 : Int32} {dg : Int32} (e2 : xs 2 = a0) (e3 : xs 3 = a1) (e4 : xs 4 = a2) (c0 : ¬ (a0.toInt < 0)) (c1 : a0.toInt < 32) (c2 : ¬ (a1.toInt < 0)) (o623 : ob h 32 = some (.inr (14, [.ref 33, .ref 162, .ref 166, .int (0 : Int32), .int (0 : Int32), .int (0 : Int32), .ref 167, .ref 170, .ref 173, .ref 177, .ref 193, .ref 208, .ref 222, .ref 238, .ref 252, .ref 274, .ref 275, .ref 276, .int (0 : Int32)]))) (o624 : ob h 33 = some (.inl (4, 32, .inr (.inr (.inr (.inr (shf 1 32))))))) (o625 : ob h (34 + 4 * a0.toNatClampNeg) = some (.inr (9, [.ref (35 + 4 * a0.toNatClampNeg), .ref (36 + 4 * a0.toNatClampNeg), .ref (37 + 4 * a0.toNatClampNeg), .int (0 : Int32), .int (0 : Int32)]))) (o644 : ob h 277 = some (.inr (15, (RB dg)))) (o646 : ob h 282 = some (.inl (0, 33, .inl (fun _ => 0)))) : XX l E (M_law nm) 1312 342628 8074320 (fun o _ => o = .inl (some (.int 1))) 2005 [some (.ref 0), some (.ref 32), some (.ref 277), some (.ref 359), some (.int (Int32.ofInt 1)), none, none, none] [] h 328 2463747 := by
  have n_a0 : a0.toNatClampNeg < 32 := nc_lt (by omega) (by decide)
  refine x_aload_n (M := (M_law nm)) dL_law_2005 rfl ?_
  refine x_aload_n (M := (M_law nm)) dL_law_2006 rfl ?_
  refine x_iload (M := (M_law nm)) dL_law_2007 rfl ?_
  refine x_iconst (M := (M_law nm)) dL_law_2009 ?_
  refine x_iadd (M := (M_law nm)) dL_law_2010 ?_
  refine x_sald (M := (M_law nm)) dL_law_2011 (by decide) hx (vp_inD (by decide +kernel)) ?_
  refine x_top (M := (M_law nm)) (y := a0) ((congrArg xs (by decide +kernel : ((Int32.ofInt 1) + (Int32.ofInt 1)).toNatClampNeg = 2)).trans e2) ?_
  refine x_aload_n (M := (M_law nm)) dL_law_2012 rfl ?_
  refine x_iload (M := (M_law nm)) dL_law_2013 rfl ?_
  refine x_iconst (M := (M_law nm)) dL_law_2015 ?_
  refine x_iadd (M := (M_law nm)) dL_law_2016 ?_
  refine x_sald (M := (M_law nm)) dL_law_2017 (by decide) hx (vp_inD (by decide +kernel)) ?_
  refine x_top (M := (M_law nm)) (y := a1) ((congrArg xs (by decide +kernel : ((Int32.ofInt 1) + (Int32.ofInt 2)).toNatClampNeg = 3)).trans e3) ?_
  refine x_aload_n (M := (M_law nm)) dL_law_2018 rfl ?_
  refine x_iload (M := (M_law nm)) dL_law_2019 rfl ?_
  refine x_iconst (M := (M_law nm)) dL_law_2021 ?_
  refine x_iadd (M := (M_law nm)) dL_law_2022 ?_
  refine x_sald (M := (M_law nm)) dL_law_2023 (by decide) hx (vp_inD (by decide +kernel)) ?_
  refine x_top (M := (M_law nm)) (y := a2) ((congrArg xs (by decide +kernel : ((Int32.ofInt 1) + (Int32.ofInt 3)).toNatClampNeg = 4)).trans e4) ?_
  refine x_aload_n (M := (M_law nm)) dL_law_2024 rfl ?_
  refine y_callSW (M := (M_law nm)) (M' := M_L_ordinate) rfl rfl dL_law_2025 m_L_ordinate t_2284 t_2285 (q622 hl c0 c1 c2 o623 o624 o625) rfl rfl (Nat.le_of_ble_eq_true rfl) (Nat.le_of_ble_eq_true rfl) (Nat.le_of_ble_eq_true rfl) (Nat.le_of_ble_eq_true rfl) (fun h626 f627 w628 => ?_)
  refine x_istore (M := (M_law nm)) dL_law_2028 (Nat.le_of_ble_eq_true rfl) rfl ?_
  refine x_aload_n (M := (M_law nm)) dL_law_2030 rfl ?_
  refine x_aload_n (M := (M_law nm)) dL_law_2031 rfl ?_
  refine x_iload (M := (M_law nm)) dL_law_2032 rfl ?_
  refine x_iconst (M := (M_law nm)) dL_law_2034 ?_
  refine x_iadd (M := (M_law nm)) dL_law_2035 ?_
  refine x_sald (M := (M_law nm)) dL_law_2036 (by decide) hx (vp_inD (by decide +kernel)) ?_
  refine x_top (M := (M_law nm)) (y := a0) ((congrArg xs (by decide +kernel : ((Int32.ofInt 1) + (Int32.ofInt 1)).toNatClampNeg = 2)).trans e2) ?_
  refine x_aload_n (M := (M_law nm)) dL_law_2037 rfl ?_
  refine x_iload (M := (M_law nm)) dL_law_2038 rfl ?_
  refine x_iconst (M := (M_law nm)) dL_law_2040 ?_
  refine x_iadd (M := (M_law nm)) dL_law_2041 ?_
  refine x_sald (M := (M_law nm)) dL_law_2042 (by decide) hx (vp_inD (by decide +kernel)) ?_
  refine x_top (M := (M_law nm)) (y := a1) ((congrArg xs (by decide +kernel : ((Int32.ofInt 1) + (Int32.ofInt 2)).toNatClampNeg = 3)).trans e3) ?_
  refine x_aload_n (M := (M_law nm)) dL_law_2043 rfl ?_
  refine x_iload (M := (M_law nm)) dL_law_2044 rfl ?_
  refine x_iconst (M := (M_law nm)) dL_law_2046 ?_
  refine x_iadd (M := (M_law nm)) dL_law_2047 ?_
  refine x_sald (M := (M_law nm)) dL_law_2048 (by decide) hx (vp_inD (by decide +kernel)) ?_
  refine x_top (M := (M_law nm)) (y := a2) ((congrArg xs (by decide +kernel : ((Int32.ofInt 1) + (Int32.ofInt 3)).toNatClampNeg = 4)).trans e4) ?_
  have o645 := (f627 277 _ (by decide) o644)
  have o647 := (f627 282 _ (by decide) o646)
  refine y_callVR (M := (M_law nm)) (M' := M_X12_ordinate) rfl rfl dL_law_2049 m_X12_ordinate t_3110 t_3111 t_3112 (q643 hl c0 c1 c2 o645 o647) rfl rfl o645 rfl (Nat.le_of_ble_eq_true rfl) (Nat.le_of_ble_eq_true rfl) (Nat.le_of_ble_eq_true rfl) (Nat.le_of_ble_eq_true rfl) (fun h648 f649 w650 => ?_)
  obtain ⟨o651, -⟩ := w650
  refine x_istore (M := (M_law nm)) dL_law_2052 (Nat.le_of_ble_eq_true rfl) rfl ?_
  refine x_aload_n (M := (M_law nm)) dL_law_2054 rfl ?_
  refine x_callVR (M := (M_law nm)) (M' := M_X12_thrown) rfl rfl dL_law_2055 m_X12_thrown t_2797 t_2798 t_2799 (q35 hl o651) rfl rfl o651 rfl (Nat.le_of_ble_eq_true rfl) (Nat.le_of_ble_eq_true rfl) (Nat.le_of_ble_eq_true rfl) (Nat.le_of_ble_eq_true rfl) ?_
  refine x_iload (M := (M_law nm)) dL_law_2058 rfl ?_
  refine x_icmp_eq (M := (M_law nm)) (tgt := 2065) dL_law_2060 (by decide) (fun _ => ?_) (fun q => absurd q (by decide +kernel))
  refine x_iload (M := (M_law nm)) dL_law_2065 rfl ?_
  refine x_if_ne (M := (M_law nm)) (tgt := 2082) dL_law_2067 (by decide) (fun _ => ?_) (fun q => absurd q (by decide +kernel))
  refine x_goto (M := (M_law nm)) (tgt := 2449) dL_law_2082 (by decide) ?_
  refine x_iinc (M := (M_law nm)) dL_law_2449 rfl (Nat.le_of_ble_eq_true rfl) rfl ?_
  refine x_lvs (M := (M_law nm)) (lv' := [some (.ref 0), some (.ref 32), some (.ref 277), some (.ref 359), some (.int (Int32.ofInt 7)), some (.int (Int32.ofInt 1)), some (.int (Int32.ofInt 0)), none]) (by rw [(by decide +kernel : (Int32.ofInt 1) + Int32.ofInt 6 = (Int32.ofInt 7))] <;> rfl) ?_
  refine x_goto (M := (M_law nm)) (tgt := 33) dL_law_2452 (by decide) ?_
  refine x_iload (M := (M_law nm)) dL_law_33 rfl ?_
  refine x_aload_n (M := (M_law nm)) dL_law_35 rfl ?_
  refine x_slen (M := (M_law nm)) dL_law_36 (by decide) hx ?_
  refine x_bipush (M := (M_law nm)) dL_law_37 ?_
  refine x_isub (M := (M_law nm)) dL_law_39 ?_
  refine x_icmp_gt (M := (M_law nm)) (tgt := 2455) dL_law_40 (by decide) (fun _ => ?_) (fun q => absurd q (by decide +kernel))
  refine x_iconst (M := (M_law nm)) dL_law_2455 ?_
  exact x_zret (M := (M_law nm)) dL_law_2456 rfl (by decide) rfl (Nat.le_of_ble_eq_true rfl) (Nat.le_of_ble_eq_true rfl)
set_option maxRecDepth 10000 in
theorem q656 {l : Launch} {E : EE} (hl : l.stackTraces = false) {h : HP} {a0 : Int32} {a1 : Int32} {a2 : Int32} (c0 : ¬ (a0.toInt < 0)) (c1 : ¬ (a0.toInt < 32)) (o652 : ob h 32 = some (.inr (14, [.ref 33, .ref 162, .ref 166, .int (0 : Int32), .int (0 : Int32), .int (0 : Int32), .ref 167, .ref 170, .ref 173, .ref 177, .ref 193, .ref 208, .ref 222, .ref 238, .ref 252, .ref 274, .ref 275, .ref 276, .int (0 : Int32)]))) : en_C l E M_X11_ordinate 7 1 6 [.ref 32, .int a0, .int a1, .int a2] h (pT "java/lang/IndexOutOfBoundsException" [] h (fun _ => True)) := by
  refine en_mk m_X11_ordinate rfl hl (Nat.le_of_ble_eq_true rfl) ?_
  refine x_aload_n (M := M_X11_ordinate) dX11_ordinate_0 rfl ?_
  refine x_iload_n (M := M_X11_ordinate) dX11_ordinate_1 rfl ?_
  exact y_callVX (M := M_X11_ordinate) (M' := M_X11_slotNumbered) rfl rfl dX11_ordinate_2 m_X11_slotNumbered t_744 t_746 s_2 (q511 hl c0 c1) rfl rfl o652 rfl (Nat.le_of_ble_eq_true rfl) (Nat.le_of_ble_eq_true rfl) (Nat.le_of_ble_eq_true rfl) (Nat.le_of_ble_eq_true rfl) (fun h653 f654 w655 => ⟨rfl, (fr_tr f654 (fun _ h => nomatch h) fr_rf), trivial⟩)
set_option maxRecDepth 10000 in
theorem q661 {l : Launch} {E : EE} (hl : l.stackTraces = false) {h : HP} {a0 : Int32} {a1 : Int32} {a2 : Int32} (c0 : ¬ (a0.toInt < 0)) (c1 : ¬ (a0.toInt < 32)) (o657 : ob h 32 = some (.inr (14, [.ref 33, .ref 162, .ref 166, .int (0 : Int32), .int (0 : Int32), .int (0 : Int32), .ref 167, .ref 170, .ref 173, .ref 177, .ref 193, .ref 208, .ref 222, .ref 238, .ref 252, .ref 274, .ref 275, .ref 276, .int (0 : Int32)]))) : en_C l E M_L_ordinate 8 1 6 [.ref 32, .int a0, .int a1, .int a2, .ref 359] h (pF (some (.int (Int32.ofInt 1))) [] h (fun _ => True)) := by
  refine en_mkW m_L_ordinate rfl hl (Nat.le_of_ble_eq_true rfl) ?_
  refine x_aload (M := M_L_ordinate) dL_ordinate_0 rfl ?_
  refine x_iconst (M := M_L_ordinate) dL_ordinate_2 ?_
  refine x_aload_n (M := M_L_ordinate) dL_ordinate_3 rfl ?_
  refine x_iload_n (M := M_L_ordinate) dL_ordinate_4 rfl ?_
  refine x_iload_n (M := M_L_ordinate) dL_ordinate_5 rfl ?_
  refine x_iload_n (M := M_L_ordinate) dL_ordinate_6 rfl ?_
  refine y_callVHX (M := M_L_ordinate) (M' := M_X11_ordinate) (i9 := 5) (nx := 17) rfl dL_ordinate_7 m_X11_ordinate t_2287 t_2288 t_2289 o657 rfl (q656 hl c0 c1 o657) rfl rfl (Nat.le_of_ble_eq_true rfl) (Nat.le_of_ble_eq_true rfl) (Nat.le_of_ble_eq_true rfl) (Nat.le_of_ble_eq_true rfl) (en_hdm (k0 := 5) [] [] rfl (fun _ h => nomatch h) (by decide +kernel) (by decide) t_739 n_750 dL_ordinate_15) (by decide) rfl (fun h658 f659 w660 => ?_)
  refine x_iconst (M := M_L_ordinate) dL_ordinate_17 ?_
  exact x_iret (M := M_L_ordinate) dL_ordinate_18 rfl ⟨rfl, (fr_tr f659 (fun _ h => nomatch h) fr_rf), trivial⟩ (Nat.le_of_ble_eq_true rfl) (Nat.le_of_ble_eq_true rfl)
set_option maxRecDepth 10000 in
theorem q674 {l : Launch} {E : EE} (hl : l.stackTraces = false) {h : HP} {a0 : Int32} {a1 : Int32} {a2 : Int32} {dg : Int32} (c0 : ¬ (a0.toInt < 0)) (c1 : ¬ (a0.toInt < 32)) (o666 : ob h 277 = some (.inr (15, (RB dg)))) : en_C l E M_X12_ordinate 1 0 0 [.ref 277, .int a0, .int a1, .int a2] h (pF (some (.int (Int32.ofInt 0))) [277] h (fun h' => ob h' 277 = some (.inr (15, ((RB dg).set 0 (.int (Int32.ofInt 1))))) ∧ True)) := by
  refine en_mk m_X12_ordinate rfl hl (Nat.le_of_ble_eq_true rfl) ?_
  refine x_aload_n (M := M_X12_ordinate) dX12_ordinate_0 rfl ?_
  refine x_iconst (M := M_X12_ordinate) dX12_ordinate_1 ?_
  refine y_put (M := M_X12_ordinate) (ci := 15) (C := RX12) (T := TX12) (N := 135) (ty := tyX12) cl15 dX12_ordinate_2 o666 0 (by decide) t_2391 (Or.inl rfl) (Nat.le_of_ble_eq_true rfl) rfl (fun h667 w668 f669 => ?_)
  refine x_aload_n (M := M_X12_ordinate) dX12_ordinate_5 rfl ?_
  refine x_iload_n (M := M_X12_ordinate) dX12_ordinate_6 rfl ?_
  refine x_callSR (M := M_X12_ordinate) (M' := M_X12_isSlot) rfl rfl dX12_ordinate_7 m_X12_isSlot t_2841 t_2842 (q530 hl c0 c1) rfl rfl (Nat.le_of_ble_eq_true rfl) (Nat.le_of_ble_eq_true rfl) (Nat.le_of_ble_eq_true rfl) (Nat.le_of_ble_eq_true rfl) ?_
  refine x_if_ne (M := M_X12_ordinate) (tgt := 17) dX12_ordinate_10 (by decide) (fun q => absurd q (by decide +kernel)) (fun _ => ?_)
  refine x_iconst (M := M_X12_ordinate) dX12_ordinate_13 ?_
  refine x_goto (M := M_X12_ordinate) (tgt := 18) dX12_ordinate_14 (by decide) ?_
  refine x_iconst (M := M_X12_ordinate) dX12_ordinate_18 ?_
  refine y_callVR (M := M_X12_ordinate) (M' := M_X12_fails) rfl rfl dX12_ordinate_19 m_X12_fails t_2805 t_2807 s_157 (q22 hl w668) rfl rfl w668 rfl (Nat.le_of_ble_eq_true rfl) (Nat.le_of_ble_eq_true rfl) (Nat.le_of_ble_eq_true rfl) (Nat.le_of_ble_eq_true rfl) (fun h670 f671 w672 => ?_)
  obtain ⟨o673, -⟩ := w672
  refine x_if_ne (M := M_X12_ordinate) (tgt := 66) dX12_ordinate_22 (by decide) (fun _ => ?_) (fun q => absurd q (by decide +kernel))
  refine x_iconst (M := M_X12_ordinate) dX12_ordinate_66 ?_
  exact x_iret (M := M_X12_ordinate) dX12_ordinate_67 rfl ⟨rfl, (fr_tr f671 (by decide) (fr_tr f669 (by decide) fr_rf)), ⟨o673, trivial⟩⟩ (Nat.le_of_ble_eq_true rfl) (Nat.le_of_ble_eq_true rfl)
set_option maxRecDepth 10000 in
theorem lc27_3 {l : Launch} {E : EE} (hl : l.stackTraces = false) (nm : String) {xs : Nat → Int32} (hx : E.2.2.2.2 0 = some (7, xs)) {h : HP} {a0 : Int32} {a1 : Int32} {a2 : Int32} {dg : Int32} (e2 : xs 2 = a0) (e3 : xs 3 = a1) (e4 : xs 4 = a2) (c0 : ¬ (a0.toInt < 0)) (c1 : ¬ (a0.toInt < 32)) (o662 : ob h 32 = some (.inr (14, [.ref 33, .ref 162, .ref 166, .int (0 : Int32), .int (0 : Int32), .int (0 : Int32), .ref 167, .ref 170, .ref 173, .ref 177, .ref 193, .ref 208, .ref 222, .ref 238, .ref 252, .ref 274, .ref 275, .ref 276, .int (0 : Int32)]))) (o675 : ob h 277 = some (.inr (15, (RB dg)))) : XX l E (M_law nm) 1312 342628 8074320 (fun o _ => o = .inl (some (.int 1))) 2005 [some (.ref 0), some (.ref 32), some (.ref 277), some (.ref 359), some (.int (Int32.ofInt 1)), none, none, none] [] h 328 2463747 := by
  refine x_aload_n (M := (M_law nm)) dL_law_2005 rfl ?_
  refine x_aload_n (M := (M_law nm)) dL_law_2006 rfl ?_
  refine x_iload (M := (M_law nm)) dL_law_2007 rfl ?_
  refine x_iconst (M := (M_law nm)) dL_law_2009 ?_
  refine x_iadd (M := (M_law nm)) dL_law_2010 ?_
  refine x_sald (M := (M_law nm)) dL_law_2011 (by decide) hx (vp_inD (by decide +kernel)) ?_
  refine x_top (M := (M_law nm)) (y := a0) ((congrArg xs (by decide +kernel : ((Int32.ofInt 1) + (Int32.ofInt 1)).toNatClampNeg = 2)).trans e2) ?_
  refine x_aload_n (M := (M_law nm)) dL_law_2012 rfl ?_
  refine x_iload (M := (M_law nm)) dL_law_2013 rfl ?_
  refine x_iconst (M := (M_law nm)) dL_law_2015 ?_
  refine x_iadd (M := (M_law nm)) dL_law_2016 ?_
  refine x_sald (M := (M_law nm)) dL_law_2017 (by decide) hx (vp_inD (by decide +kernel)) ?_
  refine x_top (M := (M_law nm)) (y := a1) ((congrArg xs (by decide +kernel : ((Int32.ofInt 1) + (Int32.ofInt 2)).toNatClampNeg = 3)).trans e3) ?_
  refine x_aload_n (M := (M_law nm)) dL_law_2018 rfl ?_
  refine x_iload (M := (M_law nm)) dL_law_2019 rfl ?_
  refine x_iconst (M := (M_law nm)) dL_law_2021 ?_
  refine x_iadd (M := (M_law nm)) dL_law_2022 ?_
  refine x_sald (M := (M_law nm)) dL_law_2023 (by decide) hx (vp_inD (by decide +kernel)) ?_
  refine x_top (M := (M_law nm)) (y := a2) ((congrArg xs (by decide +kernel : ((Int32.ofInt 1) + (Int32.ofInt 3)).toNatClampNeg = 4)).trans e4) ?_
  refine x_aload_n (M := (M_law nm)) dL_law_2024 rfl ?_
  refine y_callSW (M := (M_law nm)) (M' := M_L_ordinate) rfl rfl dL_law_2025 m_L_ordinate t_2284 t_2285 (q661 hl c0 c1 o662) rfl rfl (Nat.le_of_ble_eq_true rfl) (Nat.le_of_ble_eq_true rfl) (Nat.le_of_ble_eq_true rfl) (Nat.le_of_ble_eq_true rfl) (fun h663 f664 w665 => ?_)
  refine x_istore (M := (M_law nm)) dL_law_2028 (Nat.le_of_ble_eq_true rfl) rfl ?_
  refine x_aload_n (M := (M_law nm)) dL_law_2030 rfl ?_
  refine x_aload_n (M := (M_law nm)) dL_law_2031 rfl ?_
  refine x_iload (M := (M_law nm)) dL_law_2032 rfl ?_
  refine x_iconst (M := (M_law nm)) dL_law_2034 ?_
  refine x_iadd (M := (M_law nm)) dL_law_2035 ?_
  refine x_sald (M := (M_law nm)) dL_law_2036 (by decide) hx (vp_inD (by decide +kernel)) ?_
  refine x_top (M := (M_law nm)) (y := a0) ((congrArg xs (by decide +kernel : ((Int32.ofInt 1) + (Int32.ofInt 1)).toNatClampNeg = 2)).trans e2) ?_
  refine x_aload_n (M := (M_law nm)) dL_law_2037 rfl ?_
  refine x_iload (M := (M_law nm)) dL_law_2038 rfl ?_
  refine x_iconst (M := (M_law nm)) dL_law_2040 ?_
  refine x_iadd (M := (M_law nm)) dL_law_2041 ?_
  refine x_sald (M := (M_law nm)) dL_law_2042 (by decide) hx (vp_inD (by decide +kernel)) ?_
  refine x_top (M := (M_law nm)) (y := a1) ((congrArg xs (by decide +kernel : ((Int32.ofInt 1) + (Int32.ofInt 2)).toNatClampNeg = 3)).trans e3) ?_
  refine x_aload_n (M := (M_law nm)) dL_law_2043 rfl ?_
  refine x_iload (M := (M_law nm)) dL_law_2044 rfl ?_
  refine x_iconst (M := (M_law nm)) dL_law_2046 ?_
  refine x_iadd (M := (M_law nm)) dL_law_2047 ?_
  refine x_sald (M := (M_law nm)) dL_law_2048 (by decide) hx (vp_inD (by decide +kernel)) ?_
  refine x_top (M := (M_law nm)) (y := a2) ((congrArg xs (by decide +kernel : ((Int32.ofInt 1) + (Int32.ofInt 3)).toNatClampNeg = 4)).trans e4) ?_
  have o676 := (f664 277 _ (by decide) o675)
  refine y_callVR (M := (M_law nm)) (M' := M_X12_ordinate) rfl rfl dL_law_2049 m_X12_ordinate t_3110 t_3111 t_3112 (q674 hl c0 c1 o676) rfl rfl o676 rfl (Nat.le_of_ble_eq_true rfl) (Nat.le_of_ble_eq_true rfl) (Nat.le_of_ble_eq_true rfl) (Nat.le_of_ble_eq_true rfl) (fun h677 f678 w679 => ?_)
  obtain ⟨o680, -⟩ := w679
  refine x_istore (M := (M_law nm)) dL_law_2052 (Nat.le_of_ble_eq_true rfl) rfl ?_
  refine x_aload_n (M := (M_law nm)) dL_law_2054 rfl ?_
  refine x_callVR (M := (M_law nm)) (M' := M_X12_thrown) rfl rfl dL_law_2055 m_X12_thrown t_2797 t_2798 t_2799 (q35 hl o680) rfl rfl o680 rfl (Nat.le_of_ble_eq_true rfl) (Nat.le_of_ble_eq_true rfl) (Nat.le_of_ble_eq_true rfl) (Nat.le_of_ble_eq_true rfl) ?_
  refine x_iload (M := (M_law nm)) dL_law_2058 rfl ?_
  refine x_icmp_eq (M := (M_law nm)) (tgt := 2065) dL_law_2060 (by decide) (fun _ => ?_) (fun q => absurd q (by decide +kernel))
  refine x_iload (M := (M_law nm)) dL_law_2065 rfl ?_
  refine x_if_ne (M := (M_law nm)) (tgt := 2082) dL_law_2067 (by decide) (fun _ => ?_) (fun q => absurd q (by decide +kernel))
  refine x_goto (M := (M_law nm)) (tgt := 2449) dL_law_2082 (by decide) ?_
  refine x_iinc (M := (M_law nm)) dL_law_2449 rfl (Nat.le_of_ble_eq_true rfl) rfl ?_
  refine x_lvs (M := (M_law nm)) (lv' := [some (.ref 0), some (.ref 32), some (.ref 277), some (.ref 359), some (.int (Int32.ofInt 7)), some (.int (Int32.ofInt 1)), some (.int (Int32.ofInt 0)), none]) (by rw [(by decide +kernel : (Int32.ofInt 1) + Int32.ofInt 6 = (Int32.ofInt 7))] <;> rfl) ?_
  refine x_goto (M := (M_law nm)) (tgt := 33) dL_law_2452 (by decide) ?_
  refine x_iload (M := (M_law nm)) dL_law_33 rfl ?_
  refine x_aload_n (M := (M_law nm)) dL_law_35 rfl ?_
  refine x_slen (M := (M_law nm)) dL_law_36 (by decide) hx ?_
  refine x_bipush (M := (M_law nm)) dL_law_37 ?_
  refine x_isub (M := (M_law nm)) dL_law_39 ?_
  refine x_icmp_gt (M := (M_law nm)) (tgt := 2455) dL_law_40 (by decide) (fun _ => ?_) (fun q => absurd q (by decide +kernel))
  refine x_iconst (M := (M_law nm)) dL_law_2455 ?_
  exact x_zret (M := (M_law nm)) dL_law_2456 rfl (by decide) rfl (Nat.le_of_ble_eq_true rfl) (Nat.le_of_ble_eq_true rfl)
theorem lop27 {l : Launch} {E : EE} (hl : l.stackTraces = false) (nm : String) {xs : Nat → Int32} (hx : E.2.2.2.2 0 = some (7, xs)) (dg : Int32) : XX l E (M_law nm) 1312 342628 8074320 (fun o _ => o = .inl (some (.int 1))) 2005 [some (.ref 0), some (.ref 32), some (.ref 277), some (.ref 359), some (.int (Int32.ofInt 1)), none, none, none] [] (HH dg) 328 2463747 := by
  obtain ⟨a0, e2⟩ : ∃ a : Int32, xs 2 = a := ⟨_, rfl⟩
  obtain ⟨a1, e3⟩ : ∃ a : Int32, xs 3 = a := ⟨_, rfl⟩
  obtain ⟨a2, e4⟩ : ∃ a : Int32, xs 4 = a := ⟨_, rfl⟩
  obtain ⟨a3, e5⟩ : ∃ a : Int32, xs 5 = a := ⟨_, rfl⟩
  obtain ⟨a4, e6⟩ : ∃ a : Int32, xs 6 = a := ⟨_, rfl⟩
  by_cases c0 : a0.toInt < 0
  · exact lc27_0 hl nm hx e2 e3 e4 c0 (o_32 dg) (o_277b dg)
  · by_cases c1 : a0.toInt < 32
    · by_cases c2 : a1.toInt < 0
      · exact lc27_1 hl nm hx e2 e3 e4 c0 c1 c2 (o_32 dg) (o_33 dg) (o_277b dg) (oMR (dg := dg) (k := 4) rfl)
      · have n_a0 : a0.toNatClampNeg < 32 := nc_lt (by omega) (by decide)
        exact lc27_2 hl nm hx e2 e3 e4 c0 c1 c2 (o_32 dg) (o_33 dg) (o_sh dg a0.toNatClampNeg n_a0) (o_277b dg) (oMR (dg := dg) (k := 4) rfl)
    · exact lc27_3 hl nm hx e2 e3 e4 c0 c1 (o_32 dg) (o_277b dg)
set_option maxRecDepth 10000 in
theorem q682 {l : Launch} {E : EE} (hl : l.stackTraces = false) {h : HP} {a0 : Int32} (c0 : a0.toInt < 0) : en_C l E M_X11_end 6 1 6 [.ref 32, .int a0] h (pT "java/lang/IllegalArgumentException" [] h (fun _ => True)) := by
  refine en_mk m_X11_end rfl hl (Nat.le_of_ble_eq_true rfl) ?_
  refine x_iload_n (M := M_X11_end) dX11_end_0 rfl ?_
  refine x_if_lt (M := M_X11_end) (tgt := 10) dX11_end_1 (by decide) (fun _ => ?_) (fun q => absurd ((bi_lt rfl (by decide +kernel)).mpr (by omega : (a0.toInt < 0 : Prop))) q)
  exact x_throw (M := M_X11_end) (names := en_nm) rfl dX11_end_10 dX11_end_13 dX11_end_14 dX11_end_17 (by decide +kernel) en_nm_ok (Or.inl t_721) (Or.inl t_19) (at_X11_IllegalArgumentException_118) (Nat.le_of_ble_eq_true rfl) (Nat.le_of_ble_eq_true rfl) (Nat.le_of_ble_eq_true rfl) (Nat.le_of_ble_eq_true rfl) (fun n9 => ⟨rfl, (fr_tr (fr_app (List.replicate n9 none)) (fun _ h => nomatch h) fr_rf), trivial⟩)
set_option maxRecDepth 10000 in
theorem q687 {l : Launch} {E : EE} (hl : l.stackTraces = false) {h : HP} {a0 : Int32} (c0 : a0.toInt < 0) (o683 : ob h 32 = some (.inr (14, [.ref 33, .ref 162, .ref 166, .int (0 : Int32), .int (0 : Int32), .int (0 : Int32), .ref 167, .ref 170, .ref 173, .ref 177, .ref 193, .ref 208, .ref 222, .ref 238, .ref 252, .ref 274, .ref 275, .ref 276, .int (0 : Int32)]))) : en_C l E M_L_end 7 1 6 [.ref 32, .int a0, .ref 359] h (pF (some (.int (Int32.ofInt 1))) [] h (fun _ => True)) := by
  refine en_mkW m_L_end rfl hl (Nat.le_of_ble_eq_true rfl) ?_
  refine x_aload_n (M := M_L_end) dL_end_0 rfl ?_
  refine x_iconst (M := M_L_end) dL_end_1 ?_
  refine x_aload_n (M := M_L_end) dL_end_2 rfl ?_
  refine x_iload_n (M := M_L_end) dL_end_3 rfl ?_
  refine y_callVHX (M := M_L_end) (M' := M_X11_end) (i9 := 3) (nx := 13) rfl dL_end_4 m_X11_end t_717 t_718 t_719 o683 rfl (q682 hl c0) rfl rfl (Nat.le_of_ble_eq_true rfl) (Nat.le_of_ble_eq_true rfl) (Nat.le_of_ble_eq_true rfl) (Nat.le_of_ble_eq_true rfl) (en_hdn (k0 := 3) [] [(0, 9, 15, 13)] rfl (fun _ h => nomatch h) (by decide +kernel) (by decide) t_716 n_723 dL_end_12) (by decide) rfl (fun h684 f685 w686 => ?_)
  refine x_iconst (M := M_L_end) dL_end_13 ?_
  exact x_iret (M := M_L_end) dL_end_14 rfl ⟨rfl, (fr_tr f685 (fun _ h => nomatch h) fr_rf), trivial⟩ (Nat.le_of_ble_eq_true rfl) (Nat.le_of_ble_eq_true rfl)
set_option maxRecDepth 10000 in
theorem q696 {l : Launch} {E : EE} (hl : l.stackTraces = false) {h : HP} {a0 : Int32} (c0 : a0.toInt < 0) : en_C l E M_X12_in 0 0 0 [.long (a0.toInt64), .long (Int64.ofInt 0), .long (Int64.ofInt 20)] h (pR (some (.int (Int32.ofInt 0))) h) := by
  refine en_mk m_X12_in rfl hl (Nat.le_of_ble_eq_true rfl) ?_
  refine x_lload_n (M := M_X12_in) dX12_in_0 rfl ?_
  refine x_lload_n (M := M_X12_in) dX12_in_1 rfl ?_
  refine x_lcmp (M := M_X12_in) dX12_in_2 ?_
  refine x_if_lt (M := M_X12_in) (tgt := 17) dX12_in_3 (by decide) (fun _ => ?_) (fun q => absurd ((bc_lt (i_i2l rfl) (by decide +kernel)).mpr (by omega : (a0.toInt < 0 : Prop))) q)
  refine x_iconst (M := M_X12_in) dX12_in_17 ?_
  exact x_zret (M := M_X12_in) dX12_in_18 rfl (by decide) ⟨rfl, rfl⟩ (Nat.le_of_ble_eq_true rfl) (Nat.le_of_ble_eq_true rfl)
set_option maxRecDepth 10000 in
theorem q701 {l : Launch} {E : EE} (hl : l.stackTraces = false) {h : HP} {a0 : Int32} {dg : Int32} (c0 : a0.toInt < 0) (o692 : ob h 277 = some (.inr (15, (RB dg)))) : en_C l E M_X12_end 1 0 0 [.ref 277, .int a0] h (pF (some (.int (Int32.ofInt 0))) [277] h (fun h' => ob h' 277 = some (.inr (15, ((RB dg).set 0 (.int (Int32.ofInt 1))))) ∧ True)) := by
  refine en_mk m_X12_end rfl hl (Nat.le_of_ble_eq_true rfl) ?_
  refine x_aload_n (M := M_X12_end) dX12_end_0 rfl ?_
  refine x_iconst (M := M_X12_end) dX12_end_1 ?_
  refine y_put (M := M_X12_end) (ci := 15) (C := RX12) (T := TX12) (N := 135) (ty := tyX12) cl15 dX12_end_2 o692 0 (by decide) t_2391 (Or.inl rfl) (Nat.le_of_ble_eq_true rfl) rfl (fun h693 w694 f695 => ?_)
  refine x_aload_n (M := M_X12_end) dX12_end_5 rfl ?_
  refine x_iload_n (M := M_X12_end) dX12_end_6 rfl ?_
  refine x_i2l (M := M_X12_end) dX12_end_7 ?_
  refine x_lconst (M := M_X12_end) dX12_end_8 ?_
  refine x_ldc2 (M := M_X12_end) dX12_end_9 t_2817 ?_
  refine x_norm (M := M_X12_end) (st' := [.long (Int64.ofInt 20), .long (Int64.ofInt 0), .long (a0.toInt64), .ref 277]) rfl (vj_cons (by decide +kernel : (20 : Int64) = (Int64.ofInt 20)) (vj_cons (by decide +kernel : (Int64.ofNat ((0 : Fin 2) : Nat)) = (Int64.ofInt 0)) rfl)) rfl rfl rfl ?_
  refine x_callSR (M := M_X12_end) (M' := M_X12_in) rfl rfl dX12_end_12 m_X12_in t_2818 t_2819 (q696 hl c0) rfl rfl (Nat.le_of_ble_eq_true rfl) (Nat.le_of_ble_eq_true rfl) (Nat.le_of_ble_eq_true rfl) (Nat.le_of_ble_eq_true rfl) ?_
  refine x_if_ne (M := M_X12_end) (tgt := 22) dX12_end_15 (by decide) (fun q => absurd q (by decide +kernel)) (fun _ => ?_)
  refine x_iconst (M := M_X12_end) dX12_end_18 ?_
  refine x_goto (M := M_X12_end) (tgt := 23) dX12_end_19 (by decide) ?_
  refine x_iconst (M := M_X12_end) dX12_end_23 ?_
  refine y_callVR (M := M_X12_end) (M' := M_X12_fails) rfl rfl dX12_end_24 m_X12_fails t_2805 t_2807 s_157 (q22 hl w694) rfl rfl w694 rfl (Nat.le_of_ble_eq_true rfl) (Nat.le_of_ble_eq_true rfl) (Nat.le_of_ble_eq_true rfl) (Nat.le_of_ble_eq_true rfl) (fun h697 f698 w699 => ?_)
  obtain ⟨o700, -⟩ := w699
  refine x_if_ne (M := M_X12_end) (tgt := 52) dX12_end_27 (by decide) (fun _ => ?_) (fun q => absurd q (by decide +kernel))
  refine x_iconst (M := M_X12_end) dX12_end_52 ?_
  exact x_iret (M := M_X12_end) dX12_end_53 rfl ⟨rfl, (fr_tr f698 (by decide) (fr_tr f695 (by decide) fr_rf)), ⟨o700, trivial⟩⟩ (Nat.le_of_ble_eq_true rfl) (Nat.le_of_ble_eq_true rfl)
set_option maxRecDepth 10000 in
theorem lc1_0 {l : Launch} {E : EE} (hl : l.stackTraces = false) (nm : String) {xs : Nat → Int32} (hx : E.2.2.2.2 0 = some (7, xs)) {h : HP} {a0 : Int32} {dg : Int32} (e2 : xs 2 = a0) (c0 : a0.toInt < 0) (o688 : ob h 32 = some (.inr (14, [.ref 33, .ref 162, .ref 166, .int (0 : Int32), .int (0 : Int32), .int (0 : Int32), .ref 167, .ref 170, .ref 173, .ref 177, .ref 193, .ref 208, .ref 222, .ref 238, .ref 252, .ref 274, .ref 275, .ref 276, .int (0 : Int32)]))) (o702 : ob h 277 = some (.inr (15, (RB dg)))) : XX l E (M_law nm) 1312 342628 8074320 (fun o _ => o = .inl (some (.int 1))) 296 [some (.ref 0), some (.ref 32), some (.ref 277), some (.ref 359), some (.int (Int32.ofInt 1)), none, none, none] [] h 328 2463747 := by
  refine x_aload_n (M := (M_law nm)) dL_law_296 rfl ?_
  refine x_aload_n (M := (M_law nm)) dL_law_297 rfl ?_
  refine x_iload (M := (M_law nm)) dL_law_298 rfl ?_
  refine x_iconst (M := (M_law nm)) dL_law_300 ?_
  refine x_iadd (M := (M_law nm)) dL_law_301 ?_
  refine x_sald (M := (M_law nm)) dL_law_302 (by decide) hx (vp_inD (by decide +kernel)) ?_
  refine x_top (M := (M_law nm)) (y := a0) ((congrArg xs (by decide +kernel : ((Int32.ofInt 1) + (Int32.ofInt 1)).toNatClampNeg = 2)).trans e2) ?_
  refine x_aload_n (M := (M_law nm)) dL_law_303 rfl ?_
  refine y_callSW (M := (M_law nm)) (M' := M_L_end) rfl rfl dL_law_304 m_L_end t_713 t_714 (q687 hl c0 o688) rfl rfl (Nat.le_of_ble_eq_true rfl) (Nat.le_of_ble_eq_true rfl) (Nat.le_of_ble_eq_true rfl) (Nat.le_of_ble_eq_true rfl) (fun h689 f690 w691 => ?_)
  refine x_istore (M := (M_law nm)) dL_law_307 (Nat.le_of_ble_eq_true rfl) rfl ?_
  refine x_aload_n (M := (M_law nm)) dL_law_309 rfl ?_
  refine x_aload_n (M := (M_law nm)) dL_law_310 rfl ?_
  refine x_iload (M := (M_law nm)) dL_law_311 rfl ?_
  refine x_iconst (M := (M_law nm)) dL_law_313 ?_
  refine x_iadd (M := (M_law nm)) dL_law_314 ?_
  refine x_sald (M := (M_law nm)) dL_law_315 (by decide) hx (vp_inD (by decide +kernel)) ?_
  refine x_top (M := (M_law nm)) (y := a0) ((congrArg xs (by decide +kernel : ((Int32.ofInt 1) + (Int32.ofInt 1)).toNatClampNeg = 2)).trans e2) ?_
  have o703 := (f690 277 _ (by decide) o702)
  refine y_callVR (M := (M_law nm)) (M' := M_X12_end) rfl rfl dL_law_316 m_X12_end t_2813 t_2814 t_2815 (q701 hl c0 o703) rfl rfl o703 rfl (Nat.le_of_ble_eq_true rfl) (Nat.le_of_ble_eq_true rfl) (Nat.le_of_ble_eq_true rfl) (Nat.le_of_ble_eq_true rfl) (fun h704 f705 w706 => ?_)
  obtain ⟨o707, -⟩ := w706
  refine x_istore (M := (M_law nm)) dL_law_319 (Nat.le_of_ble_eq_true rfl) rfl ?_
  refine x_aload_n (M := (M_law nm)) dL_law_321 rfl ?_
  refine x_callVR (M := (M_law nm)) (M' := M_X12_thrown) rfl rfl dL_law_322 m_X12_thrown t_2797 t_2798 t_2799 (q35 hl o707) rfl rfl o707 rfl (Nat.le_of_ble_eq_true rfl) (Nat.le_of_ble_eq_true rfl) (Nat.le_of_ble_eq_true rfl) (Nat.le_of_ble_eq_true rfl) ?_
  refine x_iload (M := (M_law nm)) dL_law_325 rfl ?_
  refine x_icmp_eq (M := (M_law nm)) (tgt := 332) dL_law_327 (by decide) (fun _ => ?_) (fun q => absurd q (by decide +kernel))
  refine x_iload (M := (M_law nm)) dL_law_332 rfl ?_
  refine x_if_ne (M := (M_law nm)) (tgt := 349) dL_law_334 (by decide) (fun _ => ?_) (fun q => absurd q (by decide +kernel))
  refine x_goto (M := (M_law nm)) (tgt := 2449) dL_law_349 (by decide) ?_
  refine x_iinc (M := (M_law nm)) dL_law_2449 rfl (Nat.le_of_ble_eq_true rfl) rfl ?_
  refine x_lvs (M := (M_law nm)) (lv' := [some (.ref 0), some (.ref 32), some (.ref 277), some (.ref 359), some (.int (Int32.ofInt 7)), some (.int (Int32.ofInt 1)), some (.int (Int32.ofInt 0)), none]) (by rw [(by decide +kernel : (Int32.ofInt 1) + Int32.ofInt 6 = (Int32.ofInt 7))] <;> rfl) ?_
  refine x_goto (M := (M_law nm)) (tgt := 33) dL_law_2452 (by decide) ?_
  refine x_iload (M := (M_law nm)) dL_law_33 rfl ?_
  refine x_aload_n (M := (M_law nm)) dL_law_35 rfl ?_
  refine x_slen (M := (M_law nm)) dL_law_36 (by decide) hx ?_
  refine x_bipush (M := (M_law nm)) dL_law_37 ?_
  refine x_isub (M := (M_law nm)) dL_law_39 ?_
  refine x_icmp_gt (M := (M_law nm)) (tgt := 2455) dL_law_40 (by decide) (fun _ => ?_) (fun q => absurd q (by decide +kernel))
  refine x_iconst (M := (M_law nm)) dL_law_2455 ?_
  exact x_zret (M := (M_law nm)) dL_law_2456 rfl (by decide) rfl (Nat.le_of_ble_eq_true rfl) (Nat.le_of_ble_eq_true rfl)
set_option maxRecDepth 10000 in
theorem q709 {l : Launch} {E : EE} (hl : l.stackTraces = false) {h : HP} {a0 : Int32} (c0 : ¬ (a0.toInt < 0)) (c1 : 20 < a0.toInt) : en_C l E M_X11_end 6 1 6 [.ref 32, .int a0] h (pT "java/lang/IllegalArgumentException" [] h (fun _ => True)) := by
  refine en_mk m_X11_end rfl hl (Nat.le_of_ble_eq_true rfl) ?_
  refine x_iload_n (M := M_X11_end) dX11_end_0 rfl ?_
  refine x_if_lt (M := M_X11_end) (tgt := 10) dX11_end_1 (by decide) (fun q => absurd ((bi_lt rfl (by decide +kernel)).mp q) (by omega : ¬ (a0.toInt < 0))) (fun _ => ?_)
  refine x_iload_n (M := M_X11_end) dX11_end_4 rfl ?_
  refine x_bipush (M := M_X11_end) dX11_end_5 ?_
  refine x_icmp_le (M := M_X11_end) (tgt := 18) dX11_end_7 (by decide) (fun q => absurd ((bi_le rfl (by decide +kernel)).mp q) (by omega : ¬ (a0.toInt ≤ 20))) (fun _ => ?_)
  exact x_throw (M := M_X11_end) (names := en_nm) rfl dX11_end_10 dX11_end_13 dX11_end_14 dX11_end_17 (by decide +kernel) en_nm_ok (Or.inl t_721) (Or.inl t_19) (at_X11_IllegalArgumentException_118) (Nat.le_of_ble_eq_true rfl) (Nat.le_of_ble_eq_true rfl) (Nat.le_of_ble_eq_true rfl) (Nat.le_of_ble_eq_true rfl) (fun n9 => ⟨rfl, (fr_tr (fr_app (List.replicate n9 none)) (fun _ h => nomatch h) fr_rf), trivial⟩)
set_option maxRecDepth 10000 in
theorem q714 {l : Launch} {E : EE} (hl : l.stackTraces = false) {h : HP} {a0 : Int32} (c0 : ¬ (a0.toInt < 0)) (c1 : 20 < a0.toInt) (o710 : ob h 32 = some (.inr (14, [.ref 33, .ref 162, .ref 166, .int (0 : Int32), .int (0 : Int32), .int (0 : Int32), .ref 167, .ref 170, .ref 173, .ref 177, .ref 193, .ref 208, .ref 222, .ref 238, .ref 252, .ref 274, .ref 275, .ref 276, .int (0 : Int32)]))) : en_C l E M_L_end 7 1 6 [.ref 32, .int a0, .ref 359] h (pF (some (.int (Int32.ofInt 1))) [] h (fun _ => True)) := by
  refine en_mkW m_L_end rfl hl (Nat.le_of_ble_eq_true rfl) ?_
  refine x_aload_n (M := M_L_end) dL_end_0 rfl ?_
  refine x_iconst (M := M_L_end) dL_end_1 ?_
  refine x_aload_n (M := M_L_end) dL_end_2 rfl ?_
  refine x_iload_n (M := M_L_end) dL_end_3 rfl ?_
  refine y_callVHX (M := M_L_end) (M' := M_X11_end) (i9 := 3) (nx := 13) rfl dL_end_4 m_X11_end t_717 t_718 t_719 o710 rfl (q709 hl c0 c1) rfl rfl (Nat.le_of_ble_eq_true rfl) (Nat.le_of_ble_eq_true rfl) (Nat.le_of_ble_eq_true rfl) (Nat.le_of_ble_eq_true rfl) (en_hdn (k0 := 3) [] [(0, 9, 15, 13)] rfl (fun _ h => nomatch h) (by decide +kernel) (by decide) t_716 n_723 dL_end_12) (by decide) rfl (fun h711 f712 w713 => ?_)
  refine x_iconst (M := M_L_end) dL_end_13 ?_
  exact x_iret (M := M_L_end) dL_end_14 rfl ⟨rfl, (fr_tr f712 (fun _ h => nomatch h) fr_rf), trivial⟩ (Nat.le_of_ble_eq_true rfl) (Nat.le_of_ble_eq_true rfl)
set_option maxRecDepth 10000 in
theorem q723 {l : Launch} {E : EE} (hl : l.stackTraces = false) {h : HP} {a0 : Int32} (c0 : ¬ (a0.toInt < 0)) (c1 : 20 < a0.toInt) : en_C l E M_X12_in 0 0 0 [.long (a0.toInt64), .long (Int64.ofInt 0), .long (Int64.ofInt 20)] h (pR (some (.int (Int32.ofInt 0))) h) := by
  refine en_mk m_X12_in rfl hl (Nat.le_of_ble_eq_true rfl) ?_
  refine x_lload_n (M := M_X12_in) dX12_in_0 rfl ?_
  refine x_lload_n (M := M_X12_in) dX12_in_1 rfl ?_
  refine x_lcmp (M := M_X12_in) dX12_in_2 ?_
  refine x_if_lt (M := M_X12_in) (tgt := 17) dX12_in_3 (by decide) (fun q => absurd ((bc_lt (i_i2l rfl) (by decide +kernel)).mp q) (by omega : ¬ (a0.toInt < 0))) (fun _ => ?_)
  refine x_lload_n (M := M_X12_in) dX12_in_6 rfl ?_
  refine x_lload (M := M_X12_in) dX12_in_7 rfl ?_
  refine x_lcmp (M := M_X12_in) dX12_in_9 ?_
  refine x_if_gt (M := M_X12_in) (tgt := 17) dX12_in_10 (by decide) (fun _ => ?_) (fun q => absurd ((bc_gt (i_i2l rfl) (by decide +kernel)).mpr (by omega : (20 < a0.toInt : Prop))) q)
  refine x_iconst (M := M_X12_in) dX12_in_17 ?_
  exact x_zret (M := M_X12_in) dX12_in_18 rfl (by decide) ⟨rfl, rfl⟩ (Nat.le_of_ble_eq_true rfl) (Nat.le_of_ble_eq_true rfl)
set_option maxRecDepth 10000 in
theorem q728 {l : Launch} {E : EE} (hl : l.stackTraces = false) {h : HP} {a0 : Int32} {dg : Int32} (c0 : ¬ (a0.toInt < 0)) (c1 : 20 < a0.toInt) (o719 : ob h 277 = some (.inr (15, (RB dg)))) : en_C l E M_X12_end 1 0 0 [.ref 277, .int a0] h (pF (some (.int (Int32.ofInt 0))) [277] h (fun h' => ob h' 277 = some (.inr (15, ((RB dg).set 0 (.int (Int32.ofInt 1))))) ∧ True)) := by
  refine en_mk m_X12_end rfl hl (Nat.le_of_ble_eq_true rfl) ?_
  refine x_aload_n (M := M_X12_end) dX12_end_0 rfl ?_
  refine x_iconst (M := M_X12_end) dX12_end_1 ?_
  refine y_put (M := M_X12_end) (ci := 15) (C := RX12) (T := TX12) (N := 135) (ty := tyX12) cl15 dX12_end_2 o719 0 (by decide) t_2391 (Or.inl rfl) (Nat.le_of_ble_eq_true rfl) rfl (fun h720 w721 f722 => ?_)
  refine x_aload_n (M := M_X12_end) dX12_end_5 rfl ?_
  refine x_iload_n (M := M_X12_end) dX12_end_6 rfl ?_
  refine x_i2l (M := M_X12_end) dX12_end_7 ?_
  refine x_lconst (M := M_X12_end) dX12_end_8 ?_
  refine x_ldc2 (M := M_X12_end) dX12_end_9 t_2817 ?_
  refine x_norm (M := M_X12_end) (st' := [.long (Int64.ofInt 20), .long (Int64.ofInt 0), .long (a0.toInt64), .ref 277]) rfl (vj_cons (by decide +kernel : (20 : Int64) = (Int64.ofInt 20)) (vj_cons (by decide +kernel : (Int64.ofNat ((0 : Fin 2) : Nat)) = (Int64.ofInt 0)) rfl)) rfl rfl rfl ?_
  refine x_callSR (M := M_X12_end) (M' := M_X12_in) rfl rfl dX12_end_12 m_X12_in t_2818 t_2819 (q723 hl c0 c1) rfl rfl (Nat.le_of_ble_eq_true rfl) (Nat.le_of_ble_eq_true rfl) (Nat.le_of_ble_eq_true rfl) (Nat.le_of_ble_eq_true rfl) ?_
  refine x_if_ne (M := M_X12_end) (tgt := 22) dX12_end_15 (by decide) (fun q => absurd q (by decide +kernel)) (fun _ => ?_)
  refine x_iconst (M := M_X12_end) dX12_end_18 ?_
  refine x_goto (M := M_X12_end) (tgt := 23) dX12_end_19 (by decide) ?_
  refine x_iconst (M := M_X12_end) dX12_end_23 ?_
  refine y_callVR (M := M_X12_end) (M' := M_X12_fails) rfl rfl dX12_end_24 m_X12_fails t_2805 t_2807 s_157 (q22 hl w721) rfl rfl w721 rfl (Nat.le_of_ble_eq_true rfl) (Nat.le_of_ble_eq_true rfl) (Nat.le_of_ble_eq_true rfl) (Nat.le_of_ble_eq_true rfl) (fun h724 f725 w726 => ?_)
  obtain ⟨o727, -⟩ := w726
  refine x_if_ne (M := M_X12_end) (tgt := 52) dX12_end_27 (by decide) (fun _ => ?_) (fun q => absurd q (by decide +kernel))
  refine x_iconst (M := M_X12_end) dX12_end_52 ?_
  exact x_iret (M := M_X12_end) dX12_end_53 rfl ⟨rfl, (fr_tr f725 (by decide) (fr_tr f722 (by decide) fr_rf)), ⟨o727, trivial⟩⟩ (Nat.le_of_ble_eq_true rfl) (Nat.le_of_ble_eq_true rfl)
set_option maxRecDepth 10000 in
theorem lc1_1 {l : Launch} {E : EE} (hl : l.stackTraces = false) (nm : String) {xs : Nat → Int32} (hx : E.2.2.2.2 0 = some (7, xs)) {h : HP} {a0 : Int32} {dg : Int32} (e2 : xs 2 = a0) (c0 : ¬ (a0.toInt < 0)) (c1 : 20 < a0.toInt) (o715 : ob h 32 = some (.inr (14, [.ref 33, .ref 162, .ref 166, .int (0 : Int32), .int (0 : Int32), .int (0 : Int32), .ref 167, .ref 170, .ref 173, .ref 177, .ref 193, .ref 208, .ref 222, .ref 238, .ref 252, .ref 274, .ref 275, .ref 276, .int (0 : Int32)]))) (o729 : ob h 277 = some (.inr (15, (RB dg)))) : XX l E (M_law nm) 1312 342628 8074320 (fun o _ => o = .inl (some (.int 1))) 296 [some (.ref 0), some (.ref 32), some (.ref 277), some (.ref 359), some (.int (Int32.ofInt 1)), none, none, none] [] h 328 2463747 := by
  refine x_aload_n (M := (M_law nm)) dL_law_296 rfl ?_
  refine x_aload_n (M := (M_law nm)) dL_law_297 rfl ?_
  refine x_iload (M := (M_law nm)) dL_law_298 rfl ?_
  refine x_iconst (M := (M_law nm)) dL_law_300 ?_
  refine x_iadd (M := (M_law nm)) dL_law_301 ?_
  refine x_sald (M := (M_law nm)) dL_law_302 (by decide) hx (vp_inD (by decide +kernel)) ?_
  refine x_top (M := (M_law nm)) (y := a0) ((congrArg xs (by decide +kernel : ((Int32.ofInt 1) + (Int32.ofInt 1)).toNatClampNeg = 2)).trans e2) ?_
  refine x_aload_n (M := (M_law nm)) dL_law_303 rfl ?_
  refine y_callSW (M := (M_law nm)) (M' := M_L_end) rfl rfl dL_law_304 m_L_end t_713 t_714 (q714 hl c0 c1 o715) rfl rfl (Nat.le_of_ble_eq_true rfl) (Nat.le_of_ble_eq_true rfl) (Nat.le_of_ble_eq_true rfl) (Nat.le_of_ble_eq_true rfl) (fun h716 f717 w718 => ?_)
  refine x_istore (M := (M_law nm)) dL_law_307 (Nat.le_of_ble_eq_true rfl) rfl ?_
  refine x_aload_n (M := (M_law nm)) dL_law_309 rfl ?_
  refine x_aload_n (M := (M_law nm)) dL_law_310 rfl ?_
  refine x_iload (M := (M_law nm)) dL_law_311 rfl ?_
  refine x_iconst (M := (M_law nm)) dL_law_313 ?_
  refine x_iadd (M := (M_law nm)) dL_law_314 ?_
  refine x_sald (M := (M_law nm)) dL_law_315 (by decide) hx (vp_inD (by decide +kernel)) ?_
  refine x_top (M := (M_law nm)) (y := a0) ((congrArg xs (by decide +kernel : ((Int32.ofInt 1) + (Int32.ofInt 1)).toNatClampNeg = 2)).trans e2) ?_
  have o730 := (f717 277 _ (by decide) o729)
  refine y_callVR (M := (M_law nm)) (M' := M_X12_end) rfl rfl dL_law_316 m_X12_end t_2813 t_2814 t_2815 (q728 hl c0 c1 o730) rfl rfl o730 rfl (Nat.le_of_ble_eq_true rfl) (Nat.le_of_ble_eq_true rfl) (Nat.le_of_ble_eq_true rfl) (Nat.le_of_ble_eq_true rfl) (fun h731 f732 w733 => ?_)
  obtain ⟨o734, -⟩ := w733
  refine x_istore (M := (M_law nm)) dL_law_319 (Nat.le_of_ble_eq_true rfl) rfl ?_
  refine x_aload_n (M := (M_law nm)) dL_law_321 rfl ?_
  refine x_callVR (M := (M_law nm)) (M' := M_X12_thrown) rfl rfl dL_law_322 m_X12_thrown t_2797 t_2798 t_2799 (q35 hl o734) rfl rfl o734 rfl (Nat.le_of_ble_eq_true rfl) (Nat.le_of_ble_eq_true rfl) (Nat.le_of_ble_eq_true rfl) (Nat.le_of_ble_eq_true rfl) ?_
  refine x_iload (M := (M_law nm)) dL_law_325 rfl ?_
  refine x_icmp_eq (M := (M_law nm)) (tgt := 332) dL_law_327 (by decide) (fun _ => ?_) (fun q => absurd q (by decide +kernel))
  refine x_iload (M := (M_law nm)) dL_law_332 rfl ?_
  refine x_if_ne (M := (M_law nm)) (tgt := 349) dL_law_334 (by decide) (fun _ => ?_) (fun q => absurd q (by decide +kernel))
  refine x_goto (M := (M_law nm)) (tgt := 2449) dL_law_349 (by decide) ?_
  refine x_iinc (M := (M_law nm)) dL_law_2449 rfl (Nat.le_of_ble_eq_true rfl) rfl ?_
  refine x_lvs (M := (M_law nm)) (lv' := [some (.ref 0), some (.ref 32), some (.ref 277), some (.ref 359), some (.int (Int32.ofInt 7)), some (.int (Int32.ofInt 1)), some (.int (Int32.ofInt 0)), none]) (by rw [(by decide +kernel : (Int32.ofInt 1) + Int32.ofInt 6 = (Int32.ofInt 7))] <;> rfl) ?_
  refine x_goto (M := (M_law nm)) (tgt := 33) dL_law_2452 (by decide) ?_
  refine x_iload (M := (M_law nm)) dL_law_33 rfl ?_
  refine x_aload_n (M := (M_law nm)) dL_law_35 rfl ?_
  refine x_slen (M := (M_law nm)) dL_law_36 (by decide) hx ?_
  refine x_bipush (M := (M_law nm)) dL_law_37 ?_
  refine x_isub (M := (M_law nm)) dL_law_39 ?_
  refine x_icmp_gt (M := (M_law nm)) (tgt := 2455) dL_law_40 (by decide) (fun _ => ?_) (fun q => absurd q (by decide +kernel))
  refine x_iconst (M := (M_law nm)) dL_law_2455 ?_
  exact x_zret (M := (M_law nm)) dL_law_2456 rfl (by decide) rfl (Nat.le_of_ble_eq_true rfl) (Nat.le_of_ble_eq_true rfl)
set_option maxRecDepth 10000 in
theorem q737 {l : Launch} {E : EE} (hl : l.stackTraces = false) {h : HP} {a0 : Int32} (c0 : ¬ (a0.toInt < 0)) (c1 : ¬ (20 < a0.toInt)) (o735 : ob h 32 = some (.inr (14, [.ref 33, .ref 162, .ref 166, .int (0 : Int32), .int (0 : Int32), .int (0 : Int32), .ref 167, .ref 170, .ref 173, .ref 177, .ref 193, .ref 208, .ref 222, .ref 238, .ref 252, .ref 274, .ref 275, .ref 276, .int (0 : Int32)]))) : en_C l E M_X11_end 6 1 6 [.ref 32, .int a0] h (pT "java/lang/IllegalStateException" [] h (fun _ => True)) := by
  refine en_mk m_X11_end rfl hl (Nat.le_of_ble_eq_true rfl) ?_
  refine x_iload_n (M := M_X11_end) dX11_end_0 rfl ?_
  refine x_if_lt (M := M_X11_end) (tgt := 10) dX11_end_1 (by decide) (fun q => absurd ((bi_lt rfl (by decide +kernel)).mp q) (by omega : ¬ (a0.toInt < 0))) (fun _ => ?_)
  refine x_iload_n (M := M_X11_end) dX11_end_4 rfl ?_
  refine x_bipush (M := M_X11_end) dX11_end_5 ?_
  refine x_icmp_le (M := M_X11_end) (tgt := 18) dX11_end_7 (by decide) (fun _ => ?_) (fun q => absurd ((bi_le rfl (by decide +kernel)).mpr (by omega : (a0.toInt ≤ 20 : Prop))) q)
  refine x_aload_n (M := M_X11_end) dX11_end_18 rfl ?_
  refine x_getf (M := M_X11_end) (ci := 14) (C := RX11) (T := TX11) (N := 19) (ty := tyX11) cl14 dX11_end_19 o735 3 (by decide) t_566 (v := .int (0 : Int32)) rfl ?_
  refine x_bipush (M := M_X11_end) dX11_end_22 ?_
  refine x_icmp_ge (M := M_X11_end) (tgt := 35) dX11_end_24 (by decide) (fun q => absurd q (by decide +kernel)) (fun _ => ?_)
  exact x_throw (M := M_X11_end) (names := en_nm) rfl dX11_end_27 dX11_end_30 dX11_end_31 dX11_end_34 (by decide +kernel) en_nm_ok (Or.inl t_643) (Or.inl t_18) (at_X11_IllegalStateException_112) (Nat.le_of_ble_eq_true rfl) (Nat.le_of_ble_eq_true rfl) (Nat.le_of_ble_eq_true rfl) (Nat.le_of_ble_eq_true rfl) (fun n9 => ⟨rfl, (fr_tr (fr_app (List.replicate n9 none)) (fun _ h => nomatch h) fr_rf), trivial⟩)
set_option maxRecDepth 10000 in
theorem q742 {l : Launch} {E : EE} (hl : l.stackTraces = false) {h : HP} {a0 : Int32} (c0 : ¬ (a0.toInt < 0)) (c1 : ¬ (20 < a0.toInt)) (o738 : ob h 32 = some (.inr (14, [.ref 33, .ref 162, .ref 166, .int (0 : Int32), .int (0 : Int32), .int (0 : Int32), .ref 167, .ref 170, .ref 173, .ref 177, .ref 193, .ref 208, .ref 222, .ref 238, .ref 252, .ref 274, .ref 275, .ref 276, .int (0 : Int32)]))) : en_C l E M_L_end 7 1 6 [.ref 32, .int a0, .ref 359] h (pF (some (.int (Int32.ofInt 2))) [] h (fun _ => True)) := by
  refine en_mkW m_L_end rfl hl (Nat.le_of_ble_eq_true rfl) ?_
  refine x_aload_n (M := M_L_end) dL_end_0 rfl ?_
  refine x_iconst (M := M_L_end) dL_end_1 ?_
  refine x_aload_n (M := M_L_end) dL_end_2 rfl ?_
  refine x_iload_n (M := M_L_end) dL_end_3 rfl ?_
  refine y_callVHX (M := M_L_end) (M' := M_X11_end) (i9 := 3) (nx := 16) rfl dL_end_4 m_X11_end t_717 t_718 t_719 o738 rfl (q737 hl c0 c1 o738) rfl rfl (Nat.le_of_ble_eq_true rfl) (Nat.le_of_ble_eq_true rfl) (Nat.le_of_ble_eq_true rfl) (Nat.le_of_ble_eq_true rfl) (en_hdn (k0 := 3) [(0, 9, 12, 19)] [] rfl (List.forall_mem_cons.mpr ⟨⟨by decide, "java/lang/IllegalArgumentException", t_716, by decide +kernel, by decide +kernel, by decide +kernel⟩, (fun _ h => nomatch h)⟩) (by decide +kernel) (by decide) t_637 n_645 dL_end_15) (by decide) rfl (fun h739 f740 w741 => ?_)
  refine x_iconst (M := M_L_end) dL_end_16 ?_
  exact x_iret (M := M_L_end) dL_end_17 rfl ⟨rfl, (fr_tr f740 (fun _ h => nomatch h) fr_rf), trivial⟩ (Nat.le_of_ble_eq_true rfl) (Nat.le_of_ble_eq_true rfl)
set_option maxRecDepth 10000 in
theorem q751 {l : Launch} {E : EE} (hl : l.stackTraces = false) {h : HP} {a0 : Int32} (c0 : ¬ (a0.toInt < 0)) (c1 : ¬ (20 < a0.toInt)) : en_C l E M_X12_in 0 0 0 [.long (a0.toInt64), .long (Int64.ofInt 0), .long (Int64.ofInt 20)] h (pR (some (.int (Int32.ofInt 1))) h) := by
  refine en_mk m_X12_in rfl hl (Nat.le_of_ble_eq_true rfl) ?_
  refine x_lload_n (M := M_X12_in) dX12_in_0 rfl ?_
  refine x_lload_n (M := M_X12_in) dX12_in_1 rfl ?_
  refine x_lcmp (M := M_X12_in) dX12_in_2 ?_
  refine x_if_lt (M := M_X12_in) (tgt := 17) dX12_in_3 (by decide) (fun q => absurd ((bc_lt (i_i2l rfl) (by decide +kernel)).mp q) (by omega : ¬ (a0.toInt < 0))) (fun _ => ?_)
  refine x_lload_n (M := M_X12_in) dX12_in_6 rfl ?_
  refine x_lload (M := M_X12_in) dX12_in_7 rfl ?_
  refine x_lcmp (M := M_X12_in) dX12_in_9 ?_
  refine x_if_gt (M := M_X12_in) (tgt := 17) dX12_in_10 (by decide) (fun q => absurd ((bc_gt (i_i2l rfl) (by decide +kernel)).mp q) (by omega : ¬ (20 < a0.toInt))) (fun _ => ?_)
  refine x_iconst (M := M_X12_in) dX12_in_13 ?_
  refine x_goto (M := M_X12_in) (tgt := 18) dX12_in_14 (by decide) ?_
  exact x_zret (M := M_X12_in) dX12_in_18 rfl (by decide) ⟨rfl, rfl⟩ (Nat.le_of_ble_eq_true rfl) (Nat.le_of_ble_eq_true rfl)
set_option maxRecDepth 10000 in
theorem q761 {l : Launch} {E : EE} (hl : l.stackTraces = false) {h : HP} {dg : Int32} (o756 : ob h 277 = some (.inr (15, ((RB dg).set 0 (.int (Int32.ofInt 0)))))) : en_C l E M_X12_fails 0 0 0 [.ref 277, .int (Int32.ofInt 1), .int (Int32.ofInt 2)] h (pF (some (.int (Int32.ofInt 1))) [277] h (fun h' => ob h' 277 = some (.inr (15, ((RB dg).set 0 (.int (Int32.ofInt 2))))) ∧ True)) := by
  refine en_mk m_X12_fails rfl hl (Nat.le_of_ble_eq_true rfl) ?_
  refine x_aload_n (M := M_X12_fails) dX12_fails_0 rfl ?_
  refine x_iload_n (M := M_X12_fails) dX12_fails_1 rfl ?_
  refine x_if_eq (M := M_X12_fails) (tgt := 16) dX12_fails_2 (by decide) (fun q => absurd q (by decide +kernel)) (fun _ => ?_)
  refine x_aload_n (M := M_X12_fails) dX12_fails_5 rfl ?_
  refine x_getf (M := M_X12_fails) (ci := 15) (C := RX12) (T := TX12) (N := 135) (ty := tyX12) cl15 dX12_fails_6 o756 0 (by decide) t_2391 (v := .int (Int32.ofInt 0)) rfl ?_
  refine x_if_ne (M := M_X12_fails) (tgt := 16) dX12_fails_9 (by decide) (fun q => absurd q (by decide +kernel)) (fun _ => ?_)
  refine x_iload_n (M := M_X12_fails) dX12_fails_12 rfl ?_
  refine x_goto (M := M_X12_fails) (tgt := 20) dX12_fails_13 (by decide) ?_
  refine y_put (M := M_X12_fails) (ci := 15) (C := RX12) (T := TX12) (N := 135) (ty := tyX12) cl15 dX12_fails_20 o756 0 (by decide) t_2391 (Or.inl rfl) (Nat.le_of_ble_eq_true rfl) rfl (fun h757 w758 f759 => ?_)
  have w760 : ob h757 277 = some (.inr (15, ((RB dg).set 0 (.int (Int32.ofInt 2))))) := by rw [w758, List.set_set]
  refine x_aload_n (M := M_X12_fails) dX12_fails_23 rfl ?_
  refine x_getf (M := M_X12_fails) (ci := 15) (C := RX12) (T := TX12) (N := 135) (ty := tyX12) cl15 dX12_fails_24 w760 0 (by decide) t_2391 (v := .int (Int32.ofInt 2)) rfl ?_
  refine x_if_eq (M := M_X12_fails) (tgt := 34) dX12_fails_27 (by decide) (fun q => absurd q (by decide +kernel)) (fun _ => ?_)
  refine x_iconst (M := M_X12_fails) dX12_fails_30 ?_
  refine x_goto (M := M_X12_fails) (tgt := 35) dX12_fails_31 (by decide) ?_
  exact x_zret (M := M_X12_fails) dX12_fails_35 rfl (by decide) ⟨rfl, (fr_tr f759 (by decide) fr_rf), ⟨w760, trivial⟩⟩ (Nat.le_of_ble_eq_true rfl) (Nat.le_of_ble_eq_true rfl)
set_option maxRecDepth 10000 in
theorem q766 {l : Launch} {E : EE} (hl : l.stackTraces = false) {h : HP} {a0 : Int32} {dg : Int32} (c0 : ¬ (a0.toInt < 0)) (c1 : ¬ (20 < a0.toInt)) (o747 : ob h 277 = some (.inr (15, (RB dg)))) : en_C l E M_X12_end 1 0 0 [.ref 277, .int a0] h (pF (some (.int (Int32.ofInt 0))) [277] h (fun h' => ob h' 277 = some (.inr (15, ((RB dg).set 0 (.int (Int32.ofInt 2))))) ∧ True)) := by
  refine en_mk m_X12_end rfl hl (Nat.le_of_ble_eq_true rfl) ?_
  refine x_aload_n (M := M_X12_end) dX12_end_0 rfl ?_
  refine x_iconst (M := M_X12_end) dX12_end_1 ?_
  refine y_put (M := M_X12_end) (ci := 15) (C := RX12) (T := TX12) (N := 135) (ty := tyX12) cl15 dX12_end_2 o747 0 (by decide) t_2391 (Or.inl rfl) (Nat.le_of_ble_eq_true rfl) rfl (fun h748 w749 f750 => ?_)
  refine x_aload_n (M := M_X12_end) dX12_end_5 rfl ?_
  refine x_iload_n (M := M_X12_end) dX12_end_6 rfl ?_
  refine x_i2l (M := M_X12_end) dX12_end_7 ?_
  refine x_lconst (M := M_X12_end) dX12_end_8 ?_
  refine x_ldc2 (M := M_X12_end) dX12_end_9 t_2817 ?_
  refine x_norm (M := M_X12_end) (st' := [.long (Int64.ofInt 20), .long (Int64.ofInt 0), .long (a0.toInt64), .ref 277]) rfl (vj_cons (by decide +kernel : (20 : Int64) = (Int64.ofInt 20)) (vj_cons (by decide +kernel : (Int64.ofNat ((0 : Fin 2) : Nat)) = (Int64.ofInt 0)) rfl)) rfl rfl rfl ?_
  refine x_callSR (M := M_X12_end) (M' := M_X12_in) rfl rfl dX12_end_12 m_X12_in t_2818 t_2819 (q751 hl c0 c1) rfl rfl (Nat.le_of_ble_eq_true rfl) (Nat.le_of_ble_eq_true rfl) (Nat.le_of_ble_eq_true rfl) (Nat.le_of_ble_eq_true rfl) ?_
  refine x_if_ne (M := M_X12_end) (tgt := 22) dX12_end_15 (by decide) (fun _ => ?_) (fun q => absurd q (by decide +kernel))
  refine x_iconst (M := M_X12_end) dX12_end_22 ?_
  refine x_iconst (M := M_X12_end) dX12_end_23 ?_
  refine y_callVR (M := M_X12_end) (M' := M_X12_fails) rfl rfl dX12_end_24 m_X12_fails t_2805 t_2807 s_157 (q241 hl w749) rfl rfl w749 rfl (Nat.le_of_ble_eq_true rfl) (Nat.le_of_ble_eq_true rfl) (Nat.le_of_ble_eq_true rfl) (Nat.le_of_ble_eq_true rfl) (fun h752 f753 w754 => ?_)
  obtain ⟨o755, -⟩ := w754
  refine x_if_ne (M := M_X12_end) (tgt := 52) dX12_end_27 (by decide) (fun q => absurd q (by decide +kernel)) (fun _ => ?_)
  refine x_aload_n (M := M_X12_end) dX12_end_30 rfl ?_
  refine x_aload_n (M := M_X12_end) dX12_end_31 rfl ?_
  refine x_getf (M := M_X12_end) (ci := 15) (C := RX12) (T := TX12) (N := 135) (ty := tyX12) cl15 dX12_end_32 o755 4 (by decide) t_2395 (v := .int (0 : Int32)) rfl ?_
  refine x_bipush (M := M_X12_end) dX12_end_35 ?_
  refine x_icmp_ge (M := M_X12_end) (tgt := 44) dX12_end_37 (by decide) (fun q => absurd q (by decide +kernel)) (fun _ => ?_)
  refine x_iconst (M := M_X12_end) dX12_end_40 ?_
  refine x_goto (M := M_X12_end) (tgt := 45) dX12_end_41 (by decide) ?_
  refine x_iconst (M := M_X12_end) dX12_end_45 ?_
  refine y_callVR (M := M_X12_end) (M' := M_X12_fails) rfl rfl dX12_end_46 m_X12_fails t_2805 t_2807 s_157 (q761 hl o755) rfl rfl o755 rfl (Nat.le_of_ble_eq_true rfl) (Nat.le_of_ble_eq_true rfl) (Nat.le_of_ble_eq_true rfl) (Nat.le_of_ble_eq_true rfl) (fun h762 f763 w764 => ?_)
  obtain ⟨o765, -⟩ := w764
  refine x_if_eq (M := M_X12_end) (tgt := 54) dX12_end_49 (by decide) (fun q => absurd q (by decide +kernel)) (fun _ => ?_)
  refine x_iconst (M := M_X12_end) dX12_end_52 ?_
  exact x_iret (M := M_X12_end) dX12_end_53 rfl ⟨rfl, (fr_tr f763 (by decide) (fr_tr f753 (by decide) (fr_tr f750 (by decide) fr_rf))), ⟨o765, trivial⟩⟩ (Nat.le_of_ble_eq_true rfl) (Nat.le_of_ble_eq_true rfl)
set_option maxRecDepth 10000 in
theorem q774 {l : Launch} {E : EE} (hl : l.stackTraces = false) {h : HP} {dg : Int32} (o773 : ob h 277 = some (.inr (15, ((RB dg).set 0 (.int (Int32.ofInt 2)))))) : en_C l E M_X12_thrown 0 0 0 [.ref 277] h (pR (some (.int (Int32.ofInt 2))) h) := by
  refine en_mk m_X12_thrown rfl hl (Nat.le_of_ble_eq_true rfl) ?_
  refine x_aload_n (M := M_X12_thrown) dX12_thrown_0 rfl ?_
  refine x_getf (M := M_X12_thrown) (ci := 15) (C := RX12) (T := TX12) (N := 135) (ty := tyX12) cl15 dX12_thrown_1 o773 0 (by decide) t_2391 (v := .int (Int32.ofInt 2)) rfl ?_
  exact x_iret (M := M_X12_thrown) dX12_thrown_4 rfl ⟨rfl, rfl⟩ (Nat.le_of_ble_eq_true rfl) (Nat.le_of_ble_eq_true rfl)
set_option maxRecDepth 10000 in
theorem lc1_2 {l : Launch} {E : EE} (hl : l.stackTraces = false) (nm : String) {xs : Nat → Int32} (hx : E.2.2.2.2 0 = some (7, xs)) {h : HP} {a0 : Int32} {dg : Int32} (e2 : xs 2 = a0) (c0 : ¬ (a0.toInt < 0)) (c1 : ¬ (20 < a0.toInt)) (o743 : ob h 32 = some (.inr (14, [.ref 33, .ref 162, .ref 166, .int (0 : Int32), .int (0 : Int32), .int (0 : Int32), .ref 167, .ref 170, .ref 173, .ref 177, .ref 193, .ref 208, .ref 222, .ref 238, .ref 252, .ref 274, .ref 275, .ref 276, .int (0 : Int32)]))) (o767 : ob h 277 = some (.inr (15, (RB dg)))) : XX l E (M_law nm) 1312 342628 8074320 (fun o _ => o = .inl (some (.int 1))) 296 [some (.ref 0), some (.ref 32), some (.ref 277), some (.ref 359), some (.int (Int32.ofInt 1)), none, none, none] [] h 328 2463747 := by
  refine x_aload_n (M := (M_law nm)) dL_law_296 rfl ?_
  refine x_aload_n (M := (M_law nm)) dL_law_297 rfl ?_
  refine x_iload (M := (M_law nm)) dL_law_298 rfl ?_
  refine x_iconst (M := (M_law nm)) dL_law_300 ?_
  refine x_iadd (M := (M_law nm)) dL_law_301 ?_
  refine x_sald (M := (M_law nm)) dL_law_302 (by decide) hx (vp_inD (by decide +kernel)) ?_
  refine x_top (M := (M_law nm)) (y := a0) ((congrArg xs (by decide +kernel : ((Int32.ofInt 1) + (Int32.ofInt 1)).toNatClampNeg = 2)).trans e2) ?_
  refine x_aload_n (M := (M_law nm)) dL_law_303 rfl ?_
  refine y_callSW (M := (M_law nm)) (M' := M_L_end) rfl rfl dL_law_304 m_L_end t_713 t_714 (q742 hl c0 c1 o743) rfl rfl (Nat.le_of_ble_eq_true rfl) (Nat.le_of_ble_eq_true rfl) (Nat.le_of_ble_eq_true rfl) (Nat.le_of_ble_eq_true rfl) (fun h744 f745 w746 => ?_)
  refine x_istore (M := (M_law nm)) dL_law_307 (Nat.le_of_ble_eq_true rfl) rfl ?_
  refine x_aload_n (M := (M_law nm)) dL_law_309 rfl ?_
  refine x_aload_n (M := (M_law nm)) dL_law_310 rfl ?_
  refine x_iload (M := (M_law nm)) dL_law_311 rfl ?_
  refine x_iconst (M := (M_law nm)) dL_law_313 ?_
  refine x_iadd (M := (M_law nm)) dL_law_314 ?_
  refine x_sald (M := (M_law nm)) dL_law_315 (by decide) hx (vp_inD (by decide +kernel)) ?_
  refine x_top (M := (M_law nm)) (y := a0) ((congrArg xs (by decide +kernel : ((Int32.ofInt 1) + (Int32.ofInt 1)).toNatClampNeg = 2)).trans e2) ?_
  have o768 := (f745 277 _ (by decide) o767)
  refine y_callVR (M := (M_law nm)) (M' := M_X12_end) rfl rfl dL_law_316 m_X12_end t_2813 t_2814 t_2815 (q766 hl c0 c1 o768) rfl rfl o768 rfl (Nat.le_of_ble_eq_true rfl) (Nat.le_of_ble_eq_true rfl) (Nat.le_of_ble_eq_true rfl) (Nat.le_of_ble_eq_true rfl) (fun h769 f770 w771 => ?_)
  obtain ⟨o772, -⟩ := w771
  refine x_istore (M := (M_law nm)) dL_law_319 (Nat.le_of_ble_eq_true rfl) rfl ?_
  refine x_aload_n (M := (M_law nm)) dL_law_321 rfl ?_
  refine x_callVR (M := (M_law nm)) (M' := M_X12_thrown) rfl rfl dL_law_322 m_X12_thrown t_2797 t_2798 t_2799 (q774 hl o772) rfl rfl o772 rfl (Nat.le_of_ble_eq_true rfl) (Nat.le_of_ble_eq_true rfl) (Nat.le_of_ble_eq_true rfl) (Nat.le_of_ble_eq_true rfl) ?_
  refine x_iload (M := (M_law nm)) dL_law_325 rfl ?_
  refine x_icmp_eq (M := (M_law nm)) (tgt := 332) dL_law_327 (by decide) (fun _ => ?_) (fun q => absurd q (by decide +kernel))
  refine x_iload (M := (M_law nm)) dL_law_332 rfl ?_
  refine x_if_ne (M := (M_law nm)) (tgt := 349) dL_law_334 (by decide) (fun _ => ?_) (fun q => absurd q (by decide +kernel))
  refine x_goto (M := (M_law nm)) (tgt := 2449) dL_law_349 (by decide) ?_
  refine x_iinc (M := (M_law nm)) dL_law_2449 rfl (Nat.le_of_ble_eq_true rfl) rfl ?_
  refine x_lvs (M := (M_law nm)) (lv' := [some (.ref 0), some (.ref 32), some (.ref 277), some (.ref 359), some (.int (Int32.ofInt 7)), some (.int (Int32.ofInt 2)), some (.int (Int32.ofInt 0)), none]) (by rw [(by decide +kernel : (Int32.ofInt 1) + Int32.ofInt 6 = (Int32.ofInt 7))] <;> rfl) ?_
  refine x_goto (M := (M_law nm)) (tgt := 33) dL_law_2452 (by decide) ?_
  refine x_iload (M := (M_law nm)) dL_law_33 rfl ?_
  refine x_aload_n (M := (M_law nm)) dL_law_35 rfl ?_
  refine x_slen (M := (M_law nm)) dL_law_36 (by decide) hx ?_
  refine x_bipush (M := (M_law nm)) dL_law_37 ?_
  refine x_isub (M := (M_law nm)) dL_law_39 ?_
  refine x_icmp_gt (M := (M_law nm)) (tgt := 2455) dL_law_40 (by decide) (fun _ => ?_) (fun q => absurd q (by decide +kernel))
  refine x_iconst (M := (M_law nm)) dL_law_2455 ?_
  exact x_zret (M := (M_law nm)) dL_law_2456 rfl (by decide) rfl (Nat.le_of_ble_eq_true rfl) (Nat.le_of_ble_eq_true rfl)
theorem lop1 {l : Launch} {E : EE} (hl : l.stackTraces = false) (nm : String) {xs : Nat → Int32} (hx : E.2.2.2.2 0 = some (7, xs)) (dg : Int32) : XX l E (M_law nm) 1312 342628 8074320 (fun o _ => o = .inl (some (.int 1))) 296 [some (.ref 0), some (.ref 32), some (.ref 277), some (.ref 359), some (.int (Int32.ofInt 1)), none, none, none] [] (HH dg) 328 2463747 := by
  obtain ⟨a0, e2⟩ : ∃ a : Int32, xs 2 = a := ⟨_, rfl⟩
  obtain ⟨a1, e3⟩ : ∃ a : Int32, xs 3 = a := ⟨_, rfl⟩
  obtain ⟨a2, e4⟩ : ∃ a : Int32, xs 4 = a := ⟨_, rfl⟩
  obtain ⟨a3, e5⟩ : ∃ a : Int32, xs 5 = a := ⟨_, rfl⟩
  obtain ⟨a4, e6⟩ : ∃ a : Int32, xs 6 = a := ⟨_, rfl⟩
  by_cases c0 : a0.toInt < 0
  · exact lc1_0 hl nm hx e2 c0 (o_32 dg) (o_277b dg)
  · by_cases c1 : 20 < a0.toInt
    · exact lc1_1 hl nm hx e2 c0 c1 (o_32 dg) (o_277b dg)
    · exact lc1_2 hl nm hx e2 c0 c1 (o_32 dg) (o_277b dg)
set_option maxRecDepth 10000 in
theorem q779 {l : Launch} {E : EE} (hl : l.stackTraces = false) {h : HP} {a0 : Int32} (c0 : a0.toInt < 0) (o775 : ob h 32 = some (.inr (14, [.ref 33, .ref 162, .ref 166, .int (0 : Int32), .int (0 : Int32), .int (0 : Int32), .ref 167, .ref 170, .ref 173, .ref 177, .ref 193, .ref 208, .ref 222, .ref 238, .ref 252, .ref 274, .ref 275, .ref 276, .int (0 : Int32)]))) : en_C l E M_X11_area 7 1 6 [.ref 32, .int a0] h (pT "java/lang/IndexOutOfBoundsException" [] h (fun _ => True)) := by
  refine en_mk m_X11_area rfl hl (Nat.le_of_ble_eq_true rfl) ?_
  refine x_aload_n (M := M_X11_area) dX11_area_0 rfl ?_
  refine x_iload_n (M := M_X11_area) dX11_area_1 rfl ?_
  exact y_callVX (M := M_X11_area) (M' := M_X11_slotNumbered) rfl rfl dX11_area_2 m_X11_slotNumbered t_744 t_746 s_2 (q392 hl c0) rfl rfl o775 rfl (Nat.le_of_ble_eq_true rfl) (Nat.le_of_ble_eq_true rfl) (Nat.le_of_ble_eq_true rfl) (Nat.le_of_ble_eq_true rfl) (fun h776 f777 w778 => ⟨rfl, (fr_tr f777 (fun _ h => nomatch h) fr_rf), trivial⟩)
set_option maxRecDepth 10000 in
theorem q784 {l : Launch} {E : EE} (hl : l.stackTraces = false) {h : HP} {a0 : Int32} (c0 : a0.toInt < 0) (o780 : ob h 32 = some (.inr (14, [.ref 33, .ref 162, .ref 166, .int (0 : Int32), .int (0 : Int32), .int (0 : Int32), .ref 167, .ref 170, .ref 173, .ref 177, .ref 193, .ref 208, .ref 222, .ref 238, .ref 252, .ref 274, .ref 275, .ref 276, .int (0 : Int32)]))) : en_C l E M_L_area 8 1 6 [.ref 32, .int a0, .ref 359] h (pF (some (.int (Int32.ofInt 1))) [] h (fun _ => True)) := by
  refine en_mkW m_L_area rfl hl (Nat.le_of_ble_eq_true rfl) ?_
  refine x_aload_n (M := M_L_area) dL_area_0 rfl ?_
  refine x_iconst (M := M_L_area) dL_area_1 ?_
  refine x_aload_n (M := M_L_area) dL_area_2 rfl ?_
  refine x_iload_n (M := M_L_area) dL_area_3 rfl ?_
  refine y_callVHX (M := M_L_area) (M' := M_X11_area) (i9 := 3) (nx := 12) rfl dL_area_4 m_X11_area t_2220 t_2221 t_2222 o780 rfl (q779 hl c0 o780) rfl rfl (Nat.le_of_ble_eq_true rfl) (Nat.le_of_ble_eq_true rfl) (Nat.le_of_ble_eq_true rfl) (Nat.le_of_ble_eq_true rfl) (en_hdn (k0 := 3) [] [(0, 8, 14, 13)] rfl (fun _ h => nomatch h) (by decide +kernel) (by decide) t_739 n_750 dL_area_11) (by decide) rfl (fun h781 f782 w783 => ?_)
  refine x_iconst (M := M_L_area) dL_area_12 ?_
  exact x_iret (M := M_L_area) dL_area_13 rfl ⟨rfl, (fr_tr f782 (fun _ h => nomatch h) fr_rf), trivial⟩ (Nat.le_of_ble_eq_true rfl) (Nat.le_of_ble_eq_true rfl)
set_option maxRecDepth 10000 in
theorem q797 {l : Launch} {E : EE} (hl : l.stackTraces = false) {h : HP} {a0 : Int32} {dg : Int32} (c0 : a0.toInt < 0) (o789 : ob h 277 = some (.inr (15, (RB dg)))) : en_C l E M_X12_area 1 0 0 [.ref 277, .int a0] h (pF (some (.long (Int64.ofInt 0))) [277] h (fun h' => ob h' 277 = some (.inr (15, ((RB dg).set 0 (.int (Int32.ofInt 1))))) ∧ True)) := by
  refine en_mk m_X12_area rfl hl (Nat.le_of_ble_eq_true rfl) ?_
  refine x_aload_n (M := M_X12_area) dX12_area_0 rfl ?_
  refine x_iconst (M := M_X12_area) dX12_area_1 ?_
  refine y_put (M := M_X12_area) (ci := 15) (C := RX12) (T := TX12) (N := 135) (ty := tyX12) cl15 dX12_area_2 o789 0 (by decide) t_2391 (Or.inl rfl) (Nat.le_of_ble_eq_true rfl) rfl (fun h790 w791 f792 => ?_)
  refine x_aload_n (M := M_X12_area) dX12_area_5 rfl ?_
  refine x_iload_n (M := M_X12_area) dX12_area_6 rfl ?_
  refine x_callSR (M := M_X12_area) (M' := M_X12_isSlot) rfl rfl dX12_area_7 m_X12_isSlot t_2841 t_2842 (q411 hl c0) rfl rfl (Nat.le_of_ble_eq_true rfl) (Nat.le_of_ble_eq_true rfl) (Nat.le_of_ble_eq_true rfl) (Nat.le_of_ble_eq_true rfl) ?_
  refine x_if_ne (M := M_X12_area) (tgt := 17) dX12_area_10 (by decide) (fun q => absurd q (by decide +kernel)) (fun _ => ?_)
  refine x_iconst (M := M_X12_area) dX12_area_13 ?_
  refine x_goto (M := M_X12_area) (tgt := 18) dX12_area_14 (by decide) ?_
  refine x_iconst (M := M_X12_area) dX12_area_18 ?_
  refine y_callVR (M := M_X12_area) (M' := M_X12_fails) rfl rfl dX12_area_19 m_X12_fails t_2805 t_2807 s_157 (q22 hl w791) rfl rfl w791 rfl (Nat.le_of_ble_eq_true rfl) (Nat.le_of_ble_eq_true rfl) (Nat.le_of_ble_eq_true rfl) (Nat.le_of_ble_eq_true rfl) (fun h793 f794 w795 => ?_)
  obtain ⟨o796, -⟩ := w795
  refine x_if_ne (M := M_X12_area) (tgt := 46) dX12_area_22 (by decide) (fun _ => ?_) (fun q => absurd q (by decide +kernel))
  refine x_lconst (M := M_X12_area) dX12_area_46 ?_
  refine x_topl (M := M_X12_area) (y := (Int64.ofInt 0)) (by decide +kernel) ?_
  exact x_lret (M := M_X12_area) dX12_area_47 rfl ⟨rfl, (fr_tr f794 (by decide) (fr_tr f792 (by decide) fr_rf)), ⟨o796, trivial⟩⟩ (Nat.le_of_ble_eq_true rfl) (Nat.le_of_ble_eq_true rfl)
set_option maxRecDepth 10000 in
theorem lc21_0 {l : Launch} {E : EE} (hl : l.stackTraces = false) (nm : String) {xs : Nat → Int32} (hx : E.2.2.2.2 0 = some (7, xs)) {h : HP} {a0 : Int32} {dg : Int32} (e2 : xs 2 = a0) (c0 : a0.toInt < 0) (o785 : ob h 32 = some (.inr (14, [.ref 33, .ref 162, .ref 166, .int (0 : Int32), .int (0 : Int32), .int (0 : Int32), .ref 167, .ref 170, .ref 173, .ref 177, .ref 193, .ref 208, .ref 222, .ref 238, .ref 252, .ref 274, .ref 275, .ref 276, .int (0 : Int32)]))) (o798 : ob h 277 = some (.inr (15, (RB dg)))) : XX l E (M_law nm) 1312 342628 8074320 (fun o _ => o = .inl (some (.int 1))) 1574 [some (.ref 0), some (.ref 32), some (.ref 277), some (.ref 359), some (.int (Int32.ofInt 1)), none, none, none] [] h 328 2463747 := by
  refine x_aload_n (M := (M_law nm)) dL_law_1574 rfl ?_
  refine x_aload_n (M := (M_law nm)) dL_law_1575 rfl ?_
  refine x_iload (M := (M_law nm)) dL_law_1576 rfl ?_
  refine x_iconst (M := (M_law nm)) dL_law_1578 ?_
  refine x_iadd (M := (M_law nm)) dL_law_1579 ?_
  refine x_sald (M := (M_law nm)) dL_law_1580 (by decide) hx (vp_inD (by decide +kernel)) ?_
  refine x_top (M := (M_law nm)) (y := a0) ((congrArg xs (by decide +kernel : ((Int32.ofInt 1) + (Int32.ofInt 1)).toNatClampNeg = 2)).trans e2) ?_
  refine x_aload_n (M := (M_law nm)) dL_law_1581 rfl ?_
  refine y_callSW (M := (M_law nm)) (M' := M_L_area) rfl rfl dL_law_1582 m_L_area t_2217 t_2218 (q784 hl c0 o785) rfl rfl (Nat.le_of_ble_eq_true rfl) (Nat.le_of_ble_eq_true rfl) (Nat.le_of_ble_eq_true rfl) (Nat.le_of_ble_eq_true rfl) (fun h786 f787 w788 => ?_)
  refine x_istore (M := (M_law nm)) dL_law_1585 (Nat.le_of_ble_eq_true rfl) rfl ?_
  refine x_aload_n (M := (M_law nm)) dL_law_1587 rfl ?_
  refine x_aload_n (M := (M_law nm)) dL_law_1588 rfl ?_
  refine x_iload (M := (M_law nm)) dL_law_1589 rfl ?_
  refine x_iconst (M := (M_law nm)) dL_law_1591 ?_
  refine x_iadd (M := (M_law nm)) dL_law_1592 ?_
  refine x_sald (M := (M_law nm)) dL_law_1593 (by decide) hx (vp_inD (by decide +kernel)) ?_
  refine x_top (M := (M_law nm)) (y := a0) ((congrArg xs (by decide +kernel : ((Int32.ofInt 1) + (Int32.ofInt 1)).toNatClampNeg = 2)).trans e2) ?_
  have o799 := (f787 277 _ (by decide) o798)
  refine y_callVR (M := (M_law nm)) (M' := M_X12_area) rfl rfl dL_law_1594 m_X12_area t_3342 t_3343 t_3344 (q797 hl c0 o799) rfl rfl o799 rfl (Nat.le_of_ble_eq_true rfl) (Nat.le_of_ble_eq_true rfl) (Nat.le_of_ble_eq_true rfl) (Nat.le_of_ble_eq_true rfl) (fun h800 f801 w802 => ?_)
  obtain ⟨o803, -⟩ := w802
  refine x_lstore (M := (M_law nm)) dL_law_1597 (Nat.le_of_ble_eq_true rfl) rfl ?_
  refine x_aload_n (M := (M_law nm)) dL_law_1599 rfl ?_
  refine x_callVR (M := (M_law nm)) (M' := M_X12_thrown) rfl rfl dL_law_1600 m_X12_thrown t_2797 t_2798 t_2799 (q35 hl o803) rfl rfl o803 rfl (Nat.le_of_ble_eq_true rfl) (Nat.le_of_ble_eq_true rfl) (Nat.le_of_ble_eq_true rfl) (Nat.le_of_ble_eq_true rfl) ?_
  refine x_iload (M := (M_law nm)) dL_law_1603 rfl ?_
  refine x_icmp_eq (M := (M_law nm)) (tgt := 1610) dL_law_1605 (by decide) (fun _ => ?_) (fun q => absurd q (by decide +kernel))
  refine x_iload (M := (M_law nm)) dL_law_1610 rfl ?_
  refine x_if_ne (M := (M_law nm)) (tgt := 1626) dL_law_1612 (by decide) (fun _ => ?_) (fun q => absurd q (by decide +kernel))
  refine x_goto (M := (M_law nm)) (tgt := 2449) dL_law_1626 (by decide) ?_
  refine x_iinc (M := (M_law nm)) dL_law_2449 rfl (Nat.le_of_ble_eq_true rfl) rfl ?_
  refine x_lvs (M := (M_law nm)) (lv' := [some (.ref 0), some (.ref 32), some (.ref 277), some (.ref 359), some (.int (Int32.ofInt 7)), some (.int (Int32.ofInt 1)), some (.long (Int64.ofInt 0)), none]) (by rw [(by decide +kernel : (Int32.ofInt 1) + Int32.ofInt 6 = (Int32.ofInt 7))] <;> rfl) ?_
  refine x_goto (M := (M_law nm)) (tgt := 33) dL_law_2452 (by decide) ?_
  refine x_iload (M := (M_law nm)) dL_law_33 rfl ?_
  refine x_aload_n (M := (M_law nm)) dL_law_35 rfl ?_
  refine x_slen (M := (M_law nm)) dL_law_36 (by decide) hx ?_
  refine x_bipush (M := (M_law nm)) dL_law_37 ?_
  refine x_isub (M := (M_law nm)) dL_law_39 ?_
  refine x_icmp_gt (M := (M_law nm)) (tgt := 2455) dL_law_40 (by decide) (fun _ => ?_) (fun q => absurd q (by decide +kernel))
  refine x_iconst (M := (M_law nm)) dL_law_2455 ?_
  exact x_zret (M := (M_law nm)) dL_law_2456 rfl (by decide) rfl (Nat.le_of_ble_eq_true rfl) (Nat.le_of_ble_eq_true rfl)
set_option maxRecDepth 10000 in
theorem q807 {l : Launch} {E : EE} (hl : l.stackTraces = false) {h : HP} {a0 : Int32} (c0 : ¬ (a0.toInt < 0)) (c1 : a0.toInt < 32) (o806 : ob h (34 + 4 * a0.toNatClampNeg) = some (.inr (9, [.ref (35 + 4 * a0.toNatClampNeg), .ref (36 + 4 * a0.toNatClampNeg), .ref (37 + 4 * a0.toNatClampNeg), .int (0 : Int32), .int (0 : Int32)]))) : en_C l E M_X6_isThere 0 0 0 [.ref (34 + 4 * a0.toNatClampNeg)] h (pR (some (.int (Int32.ofInt 0))) h) := by
  have n_a0 : a0.toNatClampNeg < 32 := nc_lt (by omega) (by decide)
  refine en_mk m_X6_isThere rfl hl (Nat.le_of_ble_eq_true rfl) ?_
  refine x_aload_n (M := M_X6_isThere) dX6_isThere_0 rfl ?_
  refine x_getf (M := M_X6_isThere) (ci := 9) (C := RX6) (T := TX6) (N := 5) (ty := tyX6) cl9 dX6_isThere_1 o806 3 (by decide) t_72 (v := .int (0 : Int32)) rfl ?_
  refine x_if_le (M := M_X6_isThere) (tgt := 11) dX6_isThere_4 (by decide) (fun _ => ?_) (fun q => absurd q (by decide +kernel))
  refine x_iconst (M := M_X6_isThere) dX6_isThere_11 ?_
  exact x_zret (M := M_X6_isThere) dX6_isThere_12 rfl (by decide) ⟨rfl, rfl⟩ (Nat.le_of_ble_eq_true rfl) (Nat.le_of_ble_eq_true rfl)
set_option maxRecDepth 10000 in
theorem q810 {l : Launch} {E : EE} (hl : l.stackTraces = false) {h : HP} {a0 : Int32} (c0 : ¬ (a0.toInt < 0)) (c1 : a0.toInt < 32) (o808 : ob h (34 + 4 * a0.toNatClampNeg) = some (.inr (9, [.ref (35 + 4 * a0.toNatClampNeg), .ref (36 + 4 * a0.toNatClampNeg), .ref (37 + 4 * a0.toNatClampNeg), .int (0 : Int32), .int (0 : Int32)]))) : en_C l E M_X11_mustBeThere 6 1 6 [.ref (34 + 4 * a0.toNatClampNeg)] h (pT "java/lang/IllegalStateException" [] h (fun _ => True)) := by
  have n_a0 : a0.toNatClampNeg < 32 := nc_lt (by omega) (by decide)
  refine en_mk m_X11_mustBeThere rfl hl (Nat.le_of_ble_eq_true rfl) ?_
  refine x_aload_n (M := M_X11_mustBeThere) dX11_mustBeThere_0 rfl ?_
  refine x_callVR (M := M_X11_mustBeThere) (M' := M_X6_isThere) rfl rfl dX11_mustBeThere_1 m_X6_isThere t_1050 t_1051 t_1052 (q807 hl c0 c1 o808) rfl rfl o808 rfl (Nat.le_of_ble_eq_true rfl) (Nat.le_of_ble_eq_true rfl) (Nat.le_of_ble_eq_true rfl) (Nat.le_of_ble_eq_true rfl) ?_
  refine x_if_ne (M := M_X11_mustBeThere) (tgt := 15) dX11_mustBeThere_4 (by decide) (fun q => absurd q (by decide +kernel)) (fun _ => ?_)
  exact x_throw (M := M_X11_mustBeThere) (names := en_nm) rfl dX11_mustBeThere_7 dX11_mustBeThere_10 dX11_mustBeThere_11 dX11_mustBeThere_14 (by decide +kernel) en_nm_ok (Or.inl t_643) (Or.inl t_18) (at_X11_IllegalStateException_112) (Nat.le_of_ble_eq_true rfl) (Nat.le_of_ble_eq_true rfl) (Nat.le_of_ble_eq_true rfl) (Nat.le_of_ble_eq_true rfl) (fun n9 => ⟨rfl, (fr_tr (fr_app (List.replicate n9 none)) (fun _ h => nomatch h) fr_rf), trivial⟩)
set_option maxRecDepth 10000 in
theorem q815 {l : Launch} {E : EE} (hl : l.stackTraces = false) {h : HP} {a0 : Int32} (c0 : ¬ (a0.toInt < 0)) (c1 : a0.toInt < 32) (o804 : ob h 32 = some (.inr (14, [.ref 33, .ref 162, .ref 166, .int (0 : Int32), .int (0 : Int32), .int (0 : Int32), .ref 167, .ref 170, .ref 173, .ref 177, .ref 193, .ref 208, .ref 222, .ref 238, .ref 252, .ref 274, .ref 275, .ref 276, .int (0 : Int32)]))) (o805 : ob h 33 = some (.inl (4, 32, .inr (.inr (.inr (.inr (shf 1 32))))))) (o811 : ob h (34 + 4 * a0.toNatClampNeg) = some (.inr (9, [.ref (35 + 4 * a0.toNatClampNeg), .ref (36 + 4 * a0.toNatClampNeg), .ref (37 + 4 * a0.toNatClampNeg), .int (0 : Int32), .int (0 : Int32)]))) : en_C l E M_X11_area 7 1 6 [.ref 32, .int a0] h (pT "java/lang/IllegalStateException" [] h (fun _ => True)) := by
  have n_a0 : a0.toNatClampNeg < 32 := nc_lt (by omega) (by decide)
  refine en_mk m_X11_area rfl hl (Nat.le_of_ble_eq_true rfl) ?_
  refine x_aload_n (M := M_X11_area) dX11_area_0 rfl ?_
  refine x_iload_n (M := M_X11_area) dX11_area_1 rfl ?_
  refine x_callVR (M := M_X11_area) (M' := M_X11_slotNumbered) rfl rfl dX11_area_2 m_X11_slotNumbered t_744 t_746 s_2 (q425 hl c0 c1 o804 o805) rfl rfl o804 rfl (Nat.le_of_ble_eq_true rfl) (Nat.le_of_ble_eq_true rfl) (Nat.le_of_ble_eq_true rfl) (Nat.le_of_ble_eq_true rfl) ?_
  refine x_astore_n (M := M_X11_area) dX11_area_5 (Nat.le_of_ble_eq_true rfl) rfl ?_
  refine x_aload_n (M := M_X11_area) dX11_area_6 rfl ?_
  exact y_callSX (M := M_X11_area) (M' := M_X11_mustBeThere) rfl rfl dX11_area_7 m_X11_mustBeThere t_1047 t_1048 (q810 hl c0 c1 o811) rfl rfl (Nat.le_of_ble_eq_true rfl) (Nat.le_of_ble_eq_true rfl) (Nat.le_of_ble_eq_true rfl) (Nat.le_of_ble_eq_true rfl) (fun h812 f813 w814 => ⟨rfl, (fr_tr f813 (fun _ h => nomatch h) fr_rf), trivial⟩)
set_option maxRecDepth 10000 in
theorem q822 {l : Launch} {E : EE} (hl : l.stackTraces = false) {h : HP} {a0 : Int32} (c0 : ¬ (a0.toInt < 0)) (c1 : a0.toInt < 32) (o816 : ob h 32 = some (.inr (14, [.ref 33, .ref 162, .ref 166, .int (0 : Int32), .int (0 : Int32), .int (0 : Int32), .ref 167, .ref 170, .ref 173, .ref 177, .ref 193, .ref 208, .ref 222, .ref 238, .ref 252, .ref 274, .ref 275, .ref 276, .int (0 : Int32)]))) (o817 : ob h 33 = some (.inl (4, 32, .inr (.inr (.inr (.inr (shf 1 32))))))) (o818 : ob h (34 + 4 * a0.toNatClampNeg) = some (.inr (9, [.ref (35 + 4 * a0.toNatClampNeg), .ref (36 + 4 * a0.toNatClampNeg), .ref (37 + 4 * a0.toNatClampNeg), .int (0 : Int32), .int (0 : Int32)]))) : en_C l E M_L_area 8 1 6 [.ref 32, .int a0, .ref 359] h (pF (some (.int (Int32.ofInt 2))) [] h (fun _ => True)) := by
  have n_a0 : a0.toNatClampNeg < 32 := nc_lt (by omega) (by decide)
  refine en_mkW m_L_area rfl hl (Nat.le_of_ble_eq_true rfl) ?_
  refine x_aload_n (M := M_L_area) dL_area_0 rfl ?_
  refine x_iconst (M := M_L_area) dL_area_1 ?_
  refine x_aload_n (M := M_L_area) dL_area_2 rfl ?_
  refine x_iload_n (M := M_L_area) dL_area_3 rfl ?_
  refine y_callVHX (M := M_L_area) (M' := M_X11_area) (i9 := 3) (nx := 15) rfl dL_area_4 m_X11_area t_2220 t_2221 t_2222 o816 rfl (q815 hl c0 c1 o816 o817 o818) rfl rfl (Nat.le_of_ble_eq_true rfl) (Nat.le_of_ble_eq_true rfl) (Nat.le_of_ble_eq_true rfl) (Nat.le_of_ble_eq_true rfl) (en_hdn (k0 := 3) [(0, 8, 11, 24)] [] rfl (List.forall_mem_cons.mpr ⟨⟨by decide, "java/lang/IndexOutOfBoundsException", t_739, by decide +kernel, by decide +kernel, by decide +kernel⟩, (fun _ h => nomatch h)⟩) (by decide +kernel) (by decide) t_637 n_645 dL_area_14) (by decide) rfl (fun h819 f820 w821 => ?_)
  refine x_iconst (M := M_L_area) dL_area_15 ?_
  exact x_iret (M := M_L_area) dL_area_16 rfl ⟨rfl, (fr_tr f820 (fun _ h => nomatch h) fr_rf), trivial⟩ (Nat.le_of_ble_eq_true rfl) (Nat.le_of_ble_eq_true rfl)
set_option maxRecDepth 10000 in
theorem q839 {l : Launch} {E : EE} (hl : l.stackTraces = false) {h : HP} {a0 : Int32} {dg : Int32} (c0 : ¬ (a0.toInt < 0)) (c1 : a0.toInt < 32) (o837 : ob h 277 = some (.inr (15, ((RB dg).set 0 (.int (Int32.ofInt 0)))))) (o838 : ob h 280 = some (.inl (0, 33, .inl (fun _ => 0)))) : en_C l E M_X12_has 0 0 0 [.ref 277, .int a0] h (pR (some (.int (Int32.ofInt 0))) h) := by
  refine en_mk m_X12_has rfl hl (Nat.le_of_ble_eq_true rfl) ?_
  refine x_aload_n (M := M_X12_has) dX12_has_0 rfl ?_
  refine x_getf (M := M_X12_has) (ci := 15) (C := RX12) (T := TX12) (N := 135) (ty := tyX12) cl15 dX12_has_1 o837 9 (by decide) t_2400 (v := .ref 280) rfl ?_
  refine x_iload_n (M := M_X12_has) dX12_has_4 rfl ?_
  refine x_iald (M := M_X12_has) dX12_has_5 o838 (vp_in_s (by omega) (by omega)) ?_
  refine x_top (M := M_X12_has) (y := (Int32.ofInt 0)) rfl ?_
  refine x_if_le (M := M_X12_has) (tgt := 13) dX12_has_6 (by decide) (fun _ => ?_) (fun q => absurd q (by decide +kernel))
  refine x_iconst (M := M_X12_has) dX12_has_13 ?_
  exact x_zret (M := M_X12_has) dX12_has_14 rfl (by decide) ⟨rfl, rfl⟩ (Nat.le_of_ble_eq_true rfl) (Nat.le_of_ble_eq_true rfl)
set_option maxRecDepth 10000 in
theorem q846 {l : Launch} {E : EE} (hl : l.stackTraces = false) {h : HP} {a0 : Int32} {dg : Int32} (c0 : ¬ (a0.toInt < 0)) (c1 : a0.toInt < 32) (o829 : ob h 277 = some (.inr (15, (RB dg)))) (o840 : ob h 280 = some (.inl (0, 33, .inl (fun _ => 0)))) : en_C l E M_X12_area 1 0 0 [.ref 277, .int a0] h (pF (some (.long (Int64.ofInt 0))) [277] h (fun h' => ob h' 277 = some (.inr (15, ((RB dg).set 0 (.int (Int32.ofInt 2))))) ∧ True)) := by
  refine en_mk m_X12_area rfl hl (Nat.le_of_ble_eq_true rfl) ?_
  refine x_aload_n (M := M_X12_area) dX12_area_0 rfl ?_
  refine x_iconst (M := M_X12_area) dX12_area_1 ?_
  refine y_put (M := M_X12_area) (ci := 15) (C := RX12) (T := TX12) (N := 135) (ty := tyX12) cl15 dX12_area_2 o829 0 (by decide) t_2391 (Or.inl rfl) (Nat.le_of_ble_eq_true rfl) rfl (fun h830 w831 f832 => ?_)
  refine x_aload_n (M := M_X12_area) dX12_area_5 rfl ?_
  refine x_iload_n (M := M_X12_area) dX12_area_6 rfl ?_
  refine x_callSR (M := M_X12_area) (M' := M_X12_isSlot) rfl rfl dX12_area_7 m_X12_isSlot t_2841 t_2842 (q447 hl c0 c1) rfl rfl (Nat.le_of_ble_eq_true rfl) (Nat.le_of_ble_eq_true rfl) (Nat.le_of_ble_eq_true rfl) (Nat.le_of_ble_eq_true rfl) ?_
  refine x_if_ne (M := M_X12_area) (tgt := 17) dX12_area_10 (by decide) (fun _ => ?_) (fun q => absurd q (by decide +kernel))
  refine x_iconst (M := M_X12_area) dX12_area_17 ?_
  refine x_iconst (M := M_X12_area) dX12_area_18 ?_
  refine y_callVR (M := M_X12_area) (M' := M_X12_fails) rfl rfl dX12_area_19 m_X12_fails t_2805 t_2807 s_157 (q241 hl w831) rfl rfl w831 rfl (Nat.le_of_ble_eq_true rfl) (Nat.le_of_ble_eq_true rfl) (Nat.le_of_ble_eq_true rfl) (Nat.le_of_ble_eq_true rfl) (fun h833 f834 w835 => ?_)
  obtain ⟨o836, -⟩ := w835
  refine x_if_ne (M := M_X12_area) (tgt := 46) dX12_area_22 (by decide) (fun q => absurd q (by decide +kernel)) (fun _ => ?_)
  refine x_aload_n (M := M_X12_area) dX12_area_25 rfl ?_
  refine x_aload_n (M := M_X12_area) dX12_area_26 rfl ?_
  refine x_iload_n (M := M_X12_area) dX12_area_27 rfl ?_
  have o841 := (f834 280 _ (by decide) (f832 280 _ (by decide) o840))
  refine x_callVR (M := M_X12_area) (M' := M_X12_has) rfl rfl dX12_area_28 m_X12_has t_3033 t_3035 s_197 (q839 hl c0 c1 o836 o841) rfl rfl o836 rfl (Nat.le_of_ble_eq_true rfl) (Nat.le_of_ble_eq_true rfl) (Nat.le_of_ble_eq_true rfl) (Nat.le_of_ble_eq_true rfl) ?_
  refine x_if_ne (M := M_X12_area) (tgt := 38) dX12_area_31 (by decide) (fun q => absurd q (by decide +kernel)) (fun _ => ?_)
  refine x_iconst (M := M_X12_area) dX12_area_34 ?_
  refine x_goto (M := M_X12_area) (tgt := 39) dX12_area_35 (by decide) ?_
  refine x_iconst (M := M_X12_area) dX12_area_39 ?_
  refine y_callVR (M := M_X12_area) (M' := M_X12_fails) rfl rfl dX12_area_40 m_X12_fails t_2805 t_2807 s_157 (q761 hl o836) rfl rfl o836 rfl (Nat.le_of_ble_eq_true rfl) (Nat.le_of_ble_eq_true rfl) (Nat.le_of_ble_eq_true rfl) (Nat.le_of_ble_eq_true rfl) (fun h842 f843 w844 => ?_)
  obtain ⟨o845, -⟩ := w844
  refine x_if_eq (M := M_X12_area) (tgt := 48) dX12_area_43 (by decide) (fun q => absurd q (by decide +kernel)) (fun _ => ?_)
  refine x_lconst (M := M_X12_area) dX12_area_46 ?_
  refine x_topl (M := M_X12_area) (y := (Int64.ofInt 0)) (by decide +kernel) ?_
  exact x_lret (M := M_X12_area) dX12_area_47 rfl ⟨rfl, (fr_tr f843 (by decide) (fr_tr f834 (by decide) (fr_tr f832 (by decide) fr_rf))), ⟨o845, trivial⟩⟩ (Nat.le_of_ble_eq_true rfl) (Nat.le_of_ble_eq_true rfl)
set_option maxRecDepth 10000 in
theorem lc21_1 {l : Launch} {E : EE} (hl : l.stackTraces = false) (nm : String) {xs : Nat → Int32} (hx : E.2.2.2.2 0 = some (7, xs)) {h : HP} {a0 : Int32} {dg : Int32} (e2 : xs 2 = a0) (c0 : ¬ (a0.toInt < 0)) (c1 : a0.toInt < 32) (o823 : ob h 32 = some (.inr (14, [.ref 33, .ref 162, .ref 166, .int (0 : Int32), .int (0 : Int32), .int (0 : Int32), .ref 167, .ref 170, .ref 173, .ref 177, .ref 193, .ref 208, .ref 222, .ref 238, .ref 252, .ref 274, .ref 275, .ref 276, .int (0 : Int32)]))) (o824 : ob h 33 = some (.inl (4, 32, .inr (.inr (.inr (.inr (shf 1 32))))))) (o825 : ob h (34 + 4 * a0.toNatClampNeg) = some (.inr (9, [.ref (35 + 4 * a0.toNatClampNeg), .ref (36 + 4 * a0.toNatClampNeg), .ref (37 + 4 * a0.toNatClampNeg), .int (0 : Int32), .int (0 : Int32)]))) (o847 : ob h 277 = some (.inr (15, (RB dg)))) (o849 : ob h 280 = some (.inl (0, 33, .inl (fun _ => 0)))) : XX l E (M_law nm) 1312 342628 8074320 (fun o _ => o = .inl (some (.int 1))) 1574 [some (.ref 0), some (.ref 32), some (.ref 277), some (.ref 359), some (.int (Int32.ofInt 1)), none, none, none] [] h 328 2463747 := by
  have n_a0 : a0.toNatClampNeg < 32 := nc_lt (by omega) (by decide)
  refine x_aload_n (M := (M_law nm)) dL_law_1574 rfl ?_
  refine x_aload_n (M := (M_law nm)) dL_law_1575 rfl ?_
  refine x_iload (M := (M_law nm)) dL_law_1576 rfl ?_
  refine x_iconst (M := (M_law nm)) dL_law_1578 ?_
  refine x_iadd (M := (M_law nm)) dL_law_1579 ?_
  refine x_sald (M := (M_law nm)) dL_law_1580 (by decide) hx (vp_inD (by decide +kernel)) ?_
  refine x_top (M := (M_law nm)) (y := a0) ((congrArg xs (by decide +kernel : ((Int32.ofInt 1) + (Int32.ofInt 1)).toNatClampNeg = 2)).trans e2) ?_
  refine x_aload_n (M := (M_law nm)) dL_law_1581 rfl ?_
  refine y_callSW (M := (M_law nm)) (M' := M_L_area) rfl rfl dL_law_1582 m_L_area t_2217 t_2218 (q822 hl c0 c1 o823 o824 o825) rfl rfl (Nat.le_of_ble_eq_true rfl) (Nat.le_of_ble_eq_true rfl) (Nat.le_of_ble_eq_true rfl) (Nat.le_of_ble_eq_true rfl) (fun h826 f827 w828 => ?_)
  refine x_istore (M := (M_law nm)) dL_law_1585 (Nat.le_of_ble_eq_true rfl) rfl ?_
  refine x_aload_n (M := (M_law nm)) dL_law_1587 rfl ?_
  refine x_aload_n (M := (M_law nm)) dL_law_1588 rfl ?_
  refine x_iload (M := (M_law nm)) dL_law_1589 rfl ?_
  refine x_iconst (M := (M_law nm)) dL_law_1591 ?_
  refine x_iadd (M := (M_law nm)) dL_law_1592 ?_
  refine x_sald (M := (M_law nm)) dL_law_1593 (by decide) hx (vp_inD (by decide +kernel)) ?_
  refine x_top (M := (M_law nm)) (y := a0) ((congrArg xs (by decide +kernel : ((Int32.ofInt 1) + (Int32.ofInt 1)).toNatClampNeg = 2)).trans e2) ?_
  have o848 := (f827 277 _ (by decide) o847)
  have o850 := (f827 280 _ (by decide) o849)
  refine y_callVR (M := (M_law nm)) (M' := M_X12_area) rfl rfl dL_law_1594 m_X12_area t_3342 t_3343 t_3344 (q846 hl c0 c1 o848 o850) rfl rfl o848 rfl (Nat.le_of_ble_eq_true rfl) (Nat.le_of_ble_eq_true rfl) (Nat.le_of_ble_eq_true rfl) (Nat.le_of_ble_eq_true rfl) (fun h851 f852 w853 => ?_)
  obtain ⟨o854, -⟩ := w853
  refine x_lstore (M := (M_law nm)) dL_law_1597 (Nat.le_of_ble_eq_true rfl) rfl ?_
  refine x_aload_n (M := (M_law nm)) dL_law_1599 rfl ?_
  refine x_callVR (M := (M_law nm)) (M' := M_X12_thrown) rfl rfl dL_law_1600 m_X12_thrown t_2797 t_2798 t_2799 (q774 hl o854) rfl rfl o854 rfl (Nat.le_of_ble_eq_true rfl) (Nat.le_of_ble_eq_true rfl) (Nat.le_of_ble_eq_true rfl) (Nat.le_of_ble_eq_true rfl) ?_
  refine x_iload (M := (M_law nm)) dL_law_1603 rfl ?_
  refine x_icmp_eq (M := (M_law nm)) (tgt := 1610) dL_law_1605 (by decide) (fun _ => ?_) (fun q => absurd q (by decide +kernel))
  refine x_iload (M := (M_law nm)) dL_law_1610 rfl ?_
  refine x_if_ne (M := (M_law nm)) (tgt := 1626) dL_law_1612 (by decide) (fun _ => ?_) (fun q => absurd q (by decide +kernel))
  refine x_goto (M := (M_law nm)) (tgt := 2449) dL_law_1626 (by decide) ?_
  refine x_iinc (M := (M_law nm)) dL_law_2449 rfl (Nat.le_of_ble_eq_true rfl) rfl ?_
  refine x_lvs (M := (M_law nm)) (lv' := [some (.ref 0), some (.ref 32), some (.ref 277), some (.ref 359), some (.int (Int32.ofInt 7)), some (.int (Int32.ofInt 2)), some (.long (Int64.ofInt 0)), none]) (by rw [(by decide +kernel : (Int32.ofInt 1) + Int32.ofInt 6 = (Int32.ofInt 7))] <;> rfl) ?_
  refine x_goto (M := (M_law nm)) (tgt := 33) dL_law_2452 (by decide) ?_
  refine x_iload (M := (M_law nm)) dL_law_33 rfl ?_
  refine x_aload_n (M := (M_law nm)) dL_law_35 rfl ?_
  refine x_slen (M := (M_law nm)) dL_law_36 (by decide) hx ?_
  refine x_bipush (M := (M_law nm)) dL_law_37 ?_
  refine x_isub (M := (M_law nm)) dL_law_39 ?_
  refine x_icmp_gt (M := (M_law nm)) (tgt := 2455) dL_law_40 (by decide) (fun _ => ?_) (fun q => absurd q (by decide +kernel))
  refine x_iconst (M := (M_law nm)) dL_law_2455 ?_
  exact x_zret (M := (M_law nm)) dL_law_2456 rfl (by decide) rfl (Nat.le_of_ble_eq_true rfl) (Nat.le_of_ble_eq_true rfl)
set_option maxRecDepth 10000 in
theorem q859 {l : Launch} {E : EE} (hl : l.stackTraces = false) {h : HP} {a0 : Int32} (c0 : ¬ (a0.toInt < 0)) (c1 : ¬ (a0.toInt < 32)) (o855 : ob h 32 = some (.inr (14, [.ref 33, .ref 162, .ref 166, .int (0 : Int32), .int (0 : Int32), .int (0 : Int32), .ref 167, .ref 170, .ref 173, .ref 177, .ref 193, .ref 208, .ref 222, .ref 238, .ref 252, .ref 274, .ref 275, .ref 276, .int (0 : Int32)]))) : en_C l E M_X11_area 7 1 6 [.ref 32, .int a0] h (pT "java/lang/IndexOutOfBoundsException" [] h (fun _ => True)) := by
  refine en_mk m_X11_area rfl hl (Nat.le_of_ble_eq_true rfl) ?_
  refine x_aload_n (M := M_X11_area) dX11_area_0 rfl ?_
  refine x_iload_n (M := M_X11_area) dX11_area_1 rfl ?_
  exact y_callVX (M := M_X11_area) (M' := M_X11_slotNumbered) rfl rfl dX11_area_2 m_X11_slotNumbered t_744 t_746 s_2 (q511 hl c0 c1) rfl rfl o855 rfl (Nat.le_of_ble_eq_true rfl) (Nat.le_of_ble_eq_true rfl) (Nat.le_of_ble_eq_true rfl) (Nat.le_of_ble_eq_true rfl) (fun h856 f857 w858 => ⟨rfl, (fr_tr f857 (fun _ h => nomatch h) fr_rf), trivial⟩)
set_option maxRecDepth 10000 in
theorem q864 {l : Launch} {E : EE} (hl : l.stackTraces = false) {h : HP} {a0 : Int32} (c0 : ¬ (a0.toInt < 0)) (c1 : ¬ (a0.toInt < 32)) (o860 : ob h 32 = some (.inr (14, [.ref 33, .ref 162, .ref 166, .int (0 : Int32), .int (0 : Int32), .int (0 : Int32), .ref 167, .ref 170, .ref 173, .ref 177, .ref 193, .ref 208, .ref 222, .ref 238, .ref 252, .ref 274, .ref 275, .ref 276, .int (0 : Int32)]))) : en_C l E M_L_area 8 1 6 [.ref 32, .int a0, .ref 359] h (pF (some (.int (Int32.ofInt 1))) [] h (fun _ => True)) := by
  refine en_mkW m_L_area rfl hl (Nat.le_of_ble_eq_true rfl) ?_
  refine x_aload_n (M := M_L_area) dL_area_0 rfl ?_
  refine x_iconst (M := M_L_area) dL_area_1 ?_
  refine x_aload_n (M := M_L_area) dL_area_2 rfl ?_
  refine x_iload_n (M := M_L_area) dL_area_3 rfl ?_
  refine y_callVHX (M := M_L_area) (M' := M_X11_area) (i9 := 3) (nx := 12) rfl dL_area_4 m_X11_area t_2220 t_2221 t_2222 o860 rfl (q859 hl c0 c1 o860) rfl rfl (Nat.le_of_ble_eq_true rfl) (Nat.le_of_ble_eq_true rfl) (Nat.le_of_ble_eq_true rfl) (Nat.le_of_ble_eq_true rfl) (en_hdn (k0 := 3) [] [(0, 8, 14, 13)] rfl (fun _ h => nomatch h) (by decide +kernel) (by decide) t_739 n_750 dL_area_11) (by decide) rfl (fun h861 f862 w863 => ?_)
  refine x_iconst (M := M_L_area) dL_area_12 ?_
  exact x_iret (M := M_L_area) dL_area_13 rfl ⟨rfl, (fr_tr f862 (fun _ h => nomatch h) fr_rf), trivial⟩ (Nat.le_of_ble_eq_true rfl) (Nat.le_of_ble_eq_true rfl)
set_option maxRecDepth 10000 in
theorem q877 {l : Launch} {E : EE} (hl : l.stackTraces = false) {h : HP} {a0 : Int32} {dg : Int32} (c0 : ¬ (a0.toInt < 0)) (c1 : ¬ (a0.toInt < 32)) (o869 : ob h 277 = some (.inr (15, (RB dg)))) : en_C l E M_X12_area 1 0 0 [.ref 277, .int a0] h (pF (some (.long (Int64.ofInt 0))) [277] h (fun h' => ob h' 277 = some (.inr (15, ((RB dg).set 0 (.int (Int32.ofInt 1))))) ∧ True)) := by
  refine en_mk m_X12_area rfl hl (Nat.le_of_ble_eq_true rfl) ?_
  refine x_aload_n (M := M_X12_area) dX12_area_0 rfl ?_
  refine x_iconst (M := M_X12_area) dX12_area_1 ?_
  refine y_put (M := M_X12_area) (ci := 15) (C := RX12) (T := TX12) (N := 135) (ty := tyX12) cl15 dX12_area_2 o869 0 (by decide) t_2391 (Or.inl rfl) (Nat.le_of_ble_eq_true rfl) rfl (fun h870 w871 f872 => ?_)
  refine x_aload_n (M := M_X12_area) dX12_area_5 rfl ?_
  refine x_iload_n (M := M_X12_area) dX12_area_6 rfl ?_
  refine x_callSR (M := M_X12_area) (M' := M_X12_isSlot) rfl rfl dX12_area_7 m_X12_isSlot t_2841 t_2842 (q530 hl c0 c1) rfl rfl (Nat.le_of_ble_eq_true rfl) (Nat.le_of_ble_eq_true rfl) (Nat.le_of_ble_eq_true rfl) (Nat.le_of_ble_eq_true rfl) ?_
  refine x_if_ne (M := M_X12_area) (tgt := 17) dX12_area_10 (by decide) (fun q => absurd q (by decide +kernel)) (fun _ => ?_)
  refine x_iconst (M := M_X12_area) dX12_area_13 ?_
  refine x_goto (M := M_X12_area) (tgt := 18) dX12_area_14 (by decide) ?_
  refine x_iconst (M := M_X12_area) dX12_area_18 ?_
  refine y_callVR (M := M_X12_area) (M' := M_X12_fails) rfl rfl dX12_area_19 m_X12_fails t_2805 t_2807 s_157 (q22 hl w871) rfl rfl w871 rfl (Nat.le_of_ble_eq_true rfl) (Nat.le_of_ble_eq_true rfl) (Nat.le_of_ble_eq_true rfl) (Nat.le_of_ble_eq_true rfl) (fun h873 f874 w875 => ?_)
  obtain ⟨o876, -⟩ := w875
  refine x_if_ne (M := M_X12_area) (tgt := 46) dX12_area_22 (by decide) (fun _ => ?_) (fun q => absurd q (by decide +kernel))
  refine x_lconst (M := M_X12_area) dX12_area_46 ?_
  refine x_topl (M := M_X12_area) (y := (Int64.ofInt 0)) (by decide +kernel) ?_
  exact x_lret (M := M_X12_area) dX12_area_47 rfl ⟨rfl, (fr_tr f874 (by decide) (fr_tr f872 (by decide) fr_rf)), ⟨o876, trivial⟩⟩ (Nat.le_of_ble_eq_true rfl) (Nat.le_of_ble_eq_true rfl)
set_option maxRecDepth 10000 in
theorem lc21_2 {l : Launch} {E : EE} (hl : l.stackTraces = false) (nm : String) {xs : Nat → Int32} (hx : E.2.2.2.2 0 = some (7, xs)) {h : HP} {a0 : Int32} {dg : Int32} (e2 : xs 2 = a0) (c0 : ¬ (a0.toInt < 0)) (c1 : ¬ (a0.toInt < 32)) (o865 : ob h 32 = some (.inr (14, [.ref 33, .ref 162, .ref 166, .int (0 : Int32), .int (0 : Int32), .int (0 : Int32), .ref 167, .ref 170, .ref 173, .ref 177, .ref 193, .ref 208, .ref 222, .ref 238, .ref 252, .ref 274, .ref 275, .ref 276, .int (0 : Int32)]))) (o878 : ob h 277 = some (.inr (15, (RB dg)))) : XX l E (M_law nm) 1312 342628 8074320 (fun o _ => o = .inl (some (.int 1))) 1574 [some (.ref 0), some (.ref 32), some (.ref 277), some (.ref 359), some (.int (Int32.ofInt 1)), none, none, none] [] h 328 2463747 := by
  refine x_aload_n (M := (M_law nm)) dL_law_1574 rfl ?_
  refine x_aload_n (M := (M_law nm)) dL_law_1575 rfl ?_
  refine x_iload (M := (M_law nm)) dL_law_1576 rfl ?_
  refine x_iconst (M := (M_law nm)) dL_law_1578 ?_
  refine x_iadd (M := (M_law nm)) dL_law_1579 ?_
  refine x_sald (M := (M_law nm)) dL_law_1580 (by decide) hx (vp_inD (by decide +kernel)) ?_
  refine x_top (M := (M_law nm)) (y := a0) ((congrArg xs (by decide +kernel : ((Int32.ofInt 1) + (Int32.ofInt 1)).toNatClampNeg = 2)).trans e2) ?_
  refine x_aload_n (M := (M_law nm)) dL_law_1581 rfl ?_
  refine y_callSW (M := (M_law nm)) (M' := M_L_area) rfl rfl dL_law_1582 m_L_area t_2217 t_2218 (q864 hl c0 c1 o865) rfl rfl (Nat.le_of_ble_eq_true rfl) (Nat.le_of_ble_eq_true rfl) (Nat.le_of_ble_eq_true rfl) (Nat.le_of_ble_eq_true rfl) (fun h866 f867 w868 => ?_)
  refine x_istore (M := (M_law nm)) dL_law_1585 (Nat.le_of_ble_eq_true rfl) rfl ?_
  refine x_aload_n (M := (M_law nm)) dL_law_1587 rfl ?_
  refine x_aload_n (M := (M_law nm)) dL_law_1588 rfl ?_
  refine x_iload (M := (M_law nm)) dL_law_1589 rfl ?_
  refine x_iconst (M := (M_law nm)) dL_law_1591 ?_
  refine x_iadd (M := (M_law nm)) dL_law_1592 ?_
  refine x_sald (M := (M_law nm)) dL_law_1593 (by decide) hx (vp_inD (by decide +kernel)) ?_
  refine x_top (M := (M_law nm)) (y := a0) ((congrArg xs (by decide +kernel : ((Int32.ofInt 1) + (Int32.ofInt 1)).toNatClampNeg = 2)).trans e2) ?_
  have o879 := (f867 277 _ (by decide) o878)
  refine y_callVR (M := (M_law nm)) (M' := M_X12_area) rfl rfl dL_law_1594 m_X12_area t_3342 t_3343 t_3344 (q877 hl c0 c1 o879) rfl rfl o879 rfl (Nat.le_of_ble_eq_true rfl) (Nat.le_of_ble_eq_true rfl) (Nat.le_of_ble_eq_true rfl) (Nat.le_of_ble_eq_true rfl) (fun h880 f881 w882 => ?_)
  obtain ⟨o883, -⟩ := w882
  refine x_lstore (M := (M_law nm)) dL_law_1597 (Nat.le_of_ble_eq_true rfl) rfl ?_
  refine x_aload_n (M := (M_law nm)) dL_law_1599 rfl ?_
  refine x_callVR (M := (M_law nm)) (M' := M_X12_thrown) rfl rfl dL_law_1600 m_X12_thrown t_2797 t_2798 t_2799 (q35 hl o883) rfl rfl o883 rfl (Nat.le_of_ble_eq_true rfl) (Nat.le_of_ble_eq_true rfl) (Nat.le_of_ble_eq_true rfl) (Nat.le_of_ble_eq_true rfl) ?_
  refine x_iload (M := (M_law nm)) dL_law_1603 rfl ?_
  refine x_icmp_eq (M := (M_law nm)) (tgt := 1610) dL_law_1605 (by decide) (fun _ => ?_) (fun q => absurd q (by decide +kernel))
  refine x_iload (M := (M_law nm)) dL_law_1610 rfl ?_
  refine x_if_ne (M := (M_law nm)) (tgt := 1626) dL_law_1612 (by decide) (fun _ => ?_) (fun q => absurd q (by decide +kernel))
  refine x_goto (M := (M_law nm)) (tgt := 2449) dL_law_1626 (by decide) ?_
  refine x_iinc (M := (M_law nm)) dL_law_2449 rfl (Nat.le_of_ble_eq_true rfl) rfl ?_
  refine x_lvs (M := (M_law nm)) (lv' := [some (.ref 0), some (.ref 32), some (.ref 277), some (.ref 359), some (.int (Int32.ofInt 7)), some (.int (Int32.ofInt 1)), some (.long (Int64.ofInt 0)), none]) (by rw [(by decide +kernel : (Int32.ofInt 1) + Int32.ofInt 6 = (Int32.ofInt 7))] <;> rfl) ?_
  refine x_goto (M := (M_law nm)) (tgt := 33) dL_law_2452 (by decide) ?_
  refine x_iload (M := (M_law nm)) dL_law_33 rfl ?_
  refine x_aload_n (M := (M_law nm)) dL_law_35 rfl ?_
  refine x_slen (M := (M_law nm)) dL_law_36 (by decide) hx ?_
  refine x_bipush (M := (M_law nm)) dL_law_37 ?_
  refine x_isub (M := (M_law nm)) dL_law_39 ?_
  refine x_icmp_gt (M := (M_law nm)) (tgt := 2455) dL_law_40 (by decide) (fun _ => ?_) (fun q => absurd q (by decide +kernel))
  refine x_iconst (M := (M_law nm)) dL_law_2455 ?_
  exact x_zret (M := (M_law nm)) dL_law_2456 rfl (by decide) rfl (Nat.le_of_ble_eq_true rfl) (Nat.le_of_ble_eq_true rfl)
theorem lop21 {l : Launch} {E : EE} (hl : l.stackTraces = false) (nm : String) {xs : Nat → Int32} (hx : E.2.2.2.2 0 = some (7, xs)) (dg : Int32) : XX l E (M_law nm) 1312 342628 8074320 (fun o _ => o = .inl (some (.int 1))) 1574 [some (.ref 0), some (.ref 32), some (.ref 277), some (.ref 359), some (.int (Int32.ofInt 1)), none, none, none] [] (HH dg) 328 2463747 := by
  obtain ⟨a0, e2⟩ : ∃ a : Int32, xs 2 = a := ⟨_, rfl⟩
  obtain ⟨a1, e3⟩ : ∃ a : Int32, xs 3 = a := ⟨_, rfl⟩
  obtain ⟨a2, e4⟩ : ∃ a : Int32, xs 4 = a := ⟨_, rfl⟩
  obtain ⟨a3, e5⟩ : ∃ a : Int32, xs 5 = a := ⟨_, rfl⟩
  obtain ⟨a4, e6⟩ : ∃ a : Int32, xs 6 = a := ⟨_, rfl⟩
  by_cases c0 : a0.toInt < 0
  · exact lc21_0 hl nm hx e2 c0 (o_32 dg) (o_277b dg)
  · by_cases c1 : a0.toInt < 32
    · have n_a0 : a0.toNatClampNeg < 32 := nc_lt (by omega) (by decide)
      exact lc21_1 hl nm hx e2 c0 c1 (o_32 dg) (o_33 dg) (o_sh dg a0.toNatClampNeg n_a0) (o_277b dg) (oMR (dg := dg) (k := 2) rfl)
    · exact lc21_2 hl nm hx e2 c0 c1 (o_32 dg) (o_277b dg)
end CAS
