section CAS
theorem dL_found_0 : decode cL_found 0 = .ok (.aload_n 2, 1) := by decide +kernel
theorem dL_found_1 : decode cL_found 1 = .ok (.iconst 0, 1) := by decide +kernel
theorem dL_found_2 : decode cL_found 2 = .ok (.aload_n 0, 1) := by decide +kernel
theorem dL_found_3 : decode cL_found 3 = .ok (.iload_n 1, 1) := by decide +kernel
theorem dL_found_4 : decode cL_found 4 = .ok (.invokevirtual 98, 3) := by decide +kernel
theorem dL_found_12 : decode cL_found 12 = .ok (.astore_n 3, 1) := by decide +kernel
theorem dL_found_13 : decode cL_found 13 = .ok (.iconst 1, 1) := by decide +kernel
theorem dL_found_14 : decode cL_found 14 = .ok (.ireturn, 1) := by decide +kernel
theorem dX11_found_0 : decode cX11_found 0 = .ok (.iload_n 1, 1) := by decide +kernel
theorem dX11_found_1 : decode cX11_found 1 = .ok (.ifCond .lt 11, 3) := by decide +kernel
theorem dX11_found_4 : decode cX11_found 4 = .ok (.iload_n 1, 1) := by decide +kernel
theorem dX11_found_5 : decode cX11_found 5 = .ok (.aload_n 0, 1) := by decide +kernel
theorem dX11_found_6 : decode cX11_found 6 = .ok (.getfield 213, 3) := by decide +kernel
theorem dX11_found_9 : decode cX11_found 9 = .ok (.if_icmp .lt 11, 3) := by decide +kernel
theorem dX11_found_12 : decode cX11_found 12 = .ok (.new 137, 3) := by decide +kernel
theorem dX11_found_15 : decode cX11_found 15 = .ok (.dup, 1) := by decide +kernel
theorem dX11_found_16 : decode cX11_found 16 = .ok (.invokespecial 139, 3) := by decide +kernel
theorem dX11_found_19 : decode cX11_found 19 = .ok (.athrow, 1) := by decide +kernel
theorem dX12_found_0 : decode cX12_found 0 = .ok (.aload_n 0, 1) := by decide +kernel
theorem dX12_found_1 : decode cX12_found 1 = .ok (.iconst 0, 1) := by decide +kernel
theorem dX12_found_2 : decode cX12_found 2 = .ok (.putfield 271, 3) := by decide +kernel
theorem dX12_found_5 : decode cX12_found 5 = .ok (.aload_n 0, 1) := by decide +kernel
theorem dX12_found_6 : decode cX12_found 6 = .ok (.iload_n 1, 1) := by decide +kernel
theorem dX12_found_7 : decode cX12_found 7 = .ok (.i2l, 1) := by decide +kernel
theorem dX12_found_8 : decode cX12_found 8 = .ok (.lconst 0, 1) := by decide +kernel
theorem dX12_found_9 : decode cX12_found 9 = .ok (.aload_n 0, 1) := by decide +kernel
theorem dX12_found_10 : decode cX12_found 10 = .ok (.getfield 575, 3) := by decide +kernel
theorem dX12_found_13 : decode cX12_found 13 = .ok (.iconst 1, 1) := by decide +kernel
theorem dX12_found_14 : decode cX12_found 14 = .ok (.isub, 1) := by decide +kernel
theorem dX12_found_15 : decode cX12_found 15 = .ok (.i2l, 1) := by decide +kernel
theorem dX12_found_16 : decode cX12_found 16 = .ok (.invokestatic 287, 3) := by decide +kernel
theorem dX12_found_19 : decode cX12_found 19 = .ok (.ifCond .ne 7, 3) := by decide +kernel
theorem dX12_found_22 : decode cX12_found 22 = .ok (.iconst 1, 1) := by decide +kernel
theorem dX12_found_23 : decode cX12_found 23 = .ok (.goto 4, 3) := by decide +kernel
theorem dX12_found_27 : decode cX12_found 27 = .ok (.iconst 1, 1) := by decide +kernel
theorem dX12_found_28 : decode cX12_found 28 = .ok (.invokevirtual 277, 3) := by decide +kernel
theorem dX12_found_31 : decode cX12_found 31 = .ok (.ifCond .eq 5, 3) := by decide +kernel
theorem dX12_found_34 : decode cX12_found 34 = .ok (.iconst 0, 1) := by decide +kernel
theorem dX12_found_35 : decode cX12_found 35 = .ok (.ireturn, 1) := by decide +kernel
theorem dX12_in_0 : decode cX12_in 0 = .ok (.lload_n 0, 1) := by decide +kernel
theorem dX12_in_1 : decode cX12_in 1 = .ok (.lload_n 2, 1) := by decide +kernel
theorem dX12_in_2 : decode cX12_in 2 = .ok (.lcmp, 1) := by decide +kernel
theorem dX12_in_3 : decode cX12_in 3 = .ok (.ifCond .lt 14, 3) := by decide +kernel
theorem dX12_in_6 : decode cX12_in 6 = .ok (.lload_n 0, 1) := by decide +kernel
theorem dX12_in_7 : decode cX12_in 7 = .ok (.lload 4, 2) := by decide +kernel
theorem dX12_in_9 : decode cX12_in 9 = .ok (.lcmp, 1) := by decide +kernel
theorem dX12_in_10 : decode cX12_in 10 = .ok (.ifCond .gt 7, 3) := by decide +kernel
theorem dX12_in_13 : decode cX12_in 13 = .ok (.iconst 1, 1) := by decide +kernel
theorem dX12_in_14 : decode cX12_in 14 = .ok (.goto 4, 3) := by decide +kernel
theorem dX12_in_17 : decode cX12_in 17 = .ok (.iconst 0, 1) := by decide +kernel
theorem dX12_in_18 : decode cX12_in 18 = .ok (.ireturn, 1) := by decide +kernel
theorem dX12_fails_0 : decode cX12_fails 0 = .ok (.aload_n 0, 1) := by decide +kernel
theorem dX12_fails_1 : decode cX12_fails 1 = .ok (.iload_n 1, 1) := by decide +kernel
theorem dX12_fails_2 : decode cX12_fails 2 = .ok (.ifCond .eq 14, 3) := by decide +kernel
theorem dX12_fails_5 : decode cX12_fails 5 = .ok (.aload_n 0, 1) := by decide +kernel
theorem dX12_fails_6 : decode cX12_fails 6 = .ok (.getfield 271, 3) := by decide +kernel
theorem dX12_fails_9 : decode cX12_fails 9 = .ok (.ifCond .ne 7, 3) := by decide +kernel
theorem dX12_fails_12 : decode cX12_fails 12 = .ok (.iload_n 2, 1) := by decide +kernel
theorem dX12_fails_13 : decode cX12_fails 13 = .ok (.goto 7, 3) := by decide +kernel
theorem dX12_fails_16 : decode cX12_fails 16 = .ok (.aload_n 0, 1) := by decide +kernel
theorem dX12_fails_17 : decode cX12_fails 17 = .ok (.getfield 271, 3) := by decide +kernel
theorem dX12_fails_20 : decode cX12_fails 20 = .ok (.putfield 271, 3) := by decide +kernel
theorem dX12_fails_23 : decode cX12_fails 23 = .ok (.aload_n 0, 1) := by decide +kernel
theorem dX12_fails_24 : decode cX12_fails 24 = .ok (.getfield 271, 3) := by decide +kernel
theorem dX12_fails_27 : decode cX12_fails 27 = .ok (.ifCond .eq 7, 3) := by decide +kernel
theorem dX12_fails_30 : decode cX12_fails 30 = .ok (.iconst 1, 1) := by decide +kernel
theorem dX12_fails_31 : decode cX12_fails 31 = .ok (.goto 4, 3) := by decide +kernel
theorem dX12_fails_34 : decode cX12_fails 34 = .ok (.iconst 0, 1) := by decide +kernel
theorem dX12_fails_35 : decode cX12_fails 35 = .ok (.ireturn, 1) := by decide +kernel
theorem dX12_thrown_0 : decode cX12_thrown 0 = .ok (.aload_n 0, 1) := by decide +kernel
theorem dX12_thrown_1 : decode cX12_thrown 1 = .ok (.getfield 271, 3) := by decide +kernel
theorem dX12_thrown_4 : decode cX12_thrown 4 = .ok (.ireturn, 1) := by decide +kernel
theorem dX11_again_0 : decode cX11_again 0 = .ok (.aload_n 0, 1) := by decide +kernel
theorem dX11_again_1 : decode cX11_again 1 = .ok (.aload_n 0, 1) := by decide +kernel
theorem dX11_again_2 : decode cX11_again 2 = .ok (.getfield 46, 3) := by decide +kernel
theorem dX11_again_5 : decode cX11_again 5 = .ok (.getfield 119, 3) := by decide +kernel
theorem dX11_again_8 : decode cX11_again 8 = .ok (.ldc 20, 2) := by decide +kernel
theorem dX11_again_10 : decode cX11_again 10 = .ok (.invokestatic 122, 3) := by decide +kernel
theorem dX11_again_13 : decode cX11_again 13 = .ok (.putfield 105, 3) := by decide +kernel
theorem dX11_again_16 : decode cX11_again 16 = .ok (.aload_n 0, 1) := by decide +kernel
theorem dX11_again_17 : decode cX11_again 17 = .ok (.getfield 46, 3) := by decide +kernel
theorem dX11_again_20 : decode cX11_again 20 = .ok (.getfield 128, 3) := by decide +kernel
theorem dX11_again_23 : decode cX11_again 23 = .ok (.iconst 0, 1) := by decide +kernel
theorem dX11_again_24 : decode cX11_again 24 = .ok (.aload_n 0, 1) := by decide +kernel
theorem dX11_again_25 : decode cX11_again 25 = .ok (.getfield 21, 3) := by decide +kernel
theorem dX11_again_28 : decode cX11_again 28 = .ok (.iconst 0, 1) := by decide +kernel
theorem dX11_again_29 : decode cX11_again 29 = .ok (.aload_n 0, 1) := by decide +kernel
theorem dX11_again_30 : decode cX11_again 30 = .ok (.getfield 105, 3) := by decide +kernel
theorem dX11_again_33 : decode cX11_again 33 = .ok (.invokestatic 131, 3) := by decide +kernel
theorem dX11_again_36 : decode cX11_again 36 = .ok (.aload_n 0, 1) := by decide +kernel
theorem dX11_again_37 : decode cX11_again 37 = .ok (.getfield 105, 3) := by decide +kernel
theorem dX11_again_40 : decode cX11_again 40 = .ok (.ireturn, 1) := by decide +kernel
theorem dX12_again_0 : decode cX12_again 0 = .ok (.aload_n 0, 1) := by decide +kernel
theorem dX12_again_1 : decode cX12_again 1 = .ok (.iconst 0, 1) := by decide +kernel
theorem dX12_again_2 : decode cX12_again 2 = .ok (.putfield 271, 3) := by decide +kernel
theorem dX12_again_5 : decode cX12_again 5 = .ok (.aload_n 0, 1) := by decide +kernel
theorem dX12_again_6 : decode cX12_again 6 = .ok (.aload_n 0, 1) := by decide +kernel
theorem dX12_again_7 : decode cX12_again 7 = .ok (.getfield 291, 3) := by decide +kernel
theorem dX12_again_10 : decode cX12_again 10 = .ok (.ldc 7, 2) := by decide +kernel
theorem dX12_again_12 : decode cX12_again 12 = .ok (.if_icmp .ge 10, 3) := by decide +kernel
theorem dX12_again_15 : decode cX12_again 15 = .ok (.aload_n 0, 1) := by decide +kernel
theorem dX12_again_16 : decode cX12_again 16 = .ok (.getfield 291, 3) := by decide +kernel
theorem dX12_again_19 : decode cX12_again 19 = .ok (.goto 5, 3) := by decide +kernel
theorem dX12_again_24 : decode cX12_again 24 = .ok (.putfield 274, 3) := by decide +kernel
theorem dX12_again_27 : decode cX12_again 27 = .ok (.iconst 0, 1) := by decide +kernel
theorem dX12_again_28 : decode cX12_again 28 = .ok (.istore_n 1, 1) := by decide +kernel
theorem dX12_again_29 : decode cX12_again 29 = .ok (.iload_n 1, 1) := by decide +kernel
theorem dX12_again_30 : decode cX12_again 30 = .ok (.aload_n 0, 1) := by decide +kernel
theorem dX12_again_31 : decode cX12_again 31 = .ok (.getfield 274, 3) := by decide +kernel
theorem dX12_again_34 : decode cX12_again 34 = .ok (.if_icmp .ge 21, 3) := by decide +kernel
theorem dX12_again_55 : decode cX12_again 55 = .ok (.aload_n 0, 1) := by decide +kernel
theorem dX12_again_56 : decode cX12_again 56 = .ok (.getfield 274, 3) := by decide +kernel
theorem dX12_again_59 : decode cX12_again 59 = .ok (.ireturn, 1) := by decide +kernel
theorem dL_fault_0 : decode cL_fault 0 = .ok (.aload_n 2, 1) := by decide +kernel
theorem dL_fault_1 : decode cL_fault 1 = .ok (.iconst 0, 1) := by decide +kernel
theorem dL_fault_2 : decode cL_fault 2 = .ok (.aload_n 0, 1) := by decide +kernel
theorem dL_fault_3 : decode cL_fault 3 = .ok (.iload_n 1, 1) := by decide +kernel
theorem dL_fault_4 : decode cL_fault 4 = .ok (.invokevirtual 29, 3) := by decide +kernel
theorem dL_fault_7 : decode cL_fault 7 = .ok (.i2l, 1) := by decide +kernel
theorem dL_fault_8 : decode cL_fault 8 = .ok (.lastore, 1) := by decide +kernel
theorem dL_fault_9 : decode cL_fault 9 = .ok (.goto 6, 3) := by decide +kernel
theorem dL_fault_12 : decode cL_fault 12 = .ok (.astore_n 3, 1) := by decide +kernel
theorem dL_fault_13 : decode cL_fault 13 = .ok (.iconst 1, 1) := by decide +kernel
theorem dL_fault_14 : decode cL_fault 14 = .ok (.ireturn, 1) := by decide +kernel
theorem dL_fault_15 : decode cL_fault 15 = .ok (.iconst 0, 1) := by decide +kernel
theorem dL_fault_16 : decode cL_fault 16 = .ok (.ireturn, 1) := by decide +kernel
theorem dX11_fault_0 : decode cX11_fault 0 = .ok (.iload_n 1, 1) := by decide +kernel
theorem dX11_fault_1 : decode cX11_fault 1 = .ok (.ifCond .lt 8, 3) := by decide +kernel
theorem dX11_fault_4 : decode cX11_fault 4 = .ok (.iload_n 1, 1) := by decide +kernel
theorem dX11_fault_5 : decode cX11_fault 5 = .ok (.iconst 1, 1) := by decide +kernel
theorem dX11_fault_6 : decode cX11_fault 6 = .ok (.if_icmp .le 11, 3) := by decide +kernel
theorem dX11_fault_9 : decode cX11_fault 9 = .ok (.new 137, 3) := by decide +kernel
theorem dX11_fault_12 : decode cX11_fault 12 = .ok (.dup, 1) := by decide +kernel
theorem dX11_fault_13 : decode cX11_fault 13 = .ok (.invokespecial 139, 3) := by decide +kernel
theorem dX11_fault_16 : decode cX11_fault 16 = .ok (.athrow, 1) := by decide +kernel
theorem dX11_fault_17 : decode cX11_fault 17 = .ok (.iload_n 1, 1) := by decide +kernel
theorem dX11_fault_18 : decode cX11_fault 18 = .ok (.ifCond .ne 10, 3) := by decide +kernel
theorem dX11_fault_21 : decode cX11_fault 21 = .ok (.aload_n 0, 1) := by decide +kernel
theorem dX11_fault_22 : decode cX11_fault 22 = .ok (.getfield 161, 3) := by decide +kernel
theorem dX11_fault_25 : decode cX11_fault 25 = .ok (.goto 7, 3) := by decide +kernel
theorem dX11_fault_28 : decode cX11_fault 28 = .ok (.aload_n 0, 1) := by decide +kernel
theorem dX11_fault_29 : decode cX11_fault 29 = .ok (.getfield 162, 3) := by decide +kernel
theorem dX11_fault_32 : decode cX11_fault 32 = .ok (.ireturn, 1) := by decide +kernel
theorem dX12_fault_0 : decode cX12_fault 0 = .ok (.aload_n 0, 1) := by decide +kernel
theorem dX12_fault_1 : decode cX12_fault 1 = .ok (.iconst 0, 1) := by decide +kernel
theorem dX12_fault_2 : decode cX12_fault 2 = .ok (.putfield 271, 3) := by decide +kernel
theorem dX12_fault_5 : decode cX12_fault 5 = .ok (.aload_n 0, 1) := by decide +kernel
theorem dX12_fault_6 : decode cX12_fault 6 = .ok (.iload_n 1, 1) := by decide +kernel
theorem dX12_fault_7 : decode cX12_fault 7 = .ok (.i2l, 1) := by decide +kernel
theorem dX12_fault_8 : decode cX12_fault 8 = .ok (.lconst 0, 1) := by decide +kernel
theorem dX12_fault_9 : decode cX12_fault 9 = .ok (.lconst 1, 1) := by decide +kernel
theorem dX12_fault_10 : decode cX12_fault 10 = .ok (.invokestatic 287, 3) := by decide +kernel
theorem dX12_fault_13 : decode cX12_fault 13 = .ok (.ifCond .ne 7, 3) := by decide +kernel
theorem dX12_fault_16 : decode cX12_fault 16 = .ok (.iconst 1, 1) := by decide +kernel
theorem dX12_fault_17 : decode cX12_fault 17 = .ok (.goto 4, 3) := by decide +kernel
theorem dX12_fault_20 : decode cX12_fault 20 = .ok (.iconst 0, 1) := by decide +kernel
theorem dX12_fault_21 : decode cX12_fault 21 = .ok (.iconst 1, 1) := by decide +kernel
theorem dX12_fault_22 : decode cX12_fault 22 = .ok (.invokevirtual 277, 3) := by decide +kernel
theorem dX12_fault_25 : decode cX12_fault 25 = .ok (.ifCond .eq 5, 3) := by decide +kernel
theorem dX12_fault_28 : decode cX12_fault 28 = .ok (.iconst 0, 1) := by decide +kernel
theorem dX12_fault_29 : decode cX12_fault 29 = .ok (.ireturn, 1) := by decide +kernel
theorem dX12_fault_30 : decode cX12_fault 30 = .ok (.iload_n 1, 1) := by decide +kernel
theorem dX12_fault_31 : decode cX12_fault 31 = .ok (.ifCond .ne 10, 3) := by decide +kernel
theorem dX12_fault_34 : decode cX12_fault 34 = .ok (.aload_n 0, 1) := by decide +kernel
theorem dX12_fault_35 : decode cX12_fault 35 = .ok (.getfield 294, 3) := by decide +kernel
theorem dX12_fault_38 : decode cX12_fault 38 = .ok (.goto 7, 3) := by decide +kernel
theorem dX12_fault_41 : decode cX12_fault 41 = .ok (.aload_n 0, 1) := by decide +kernel
theorem dX12_fault_42 : decode cX12_fault 42 = .ok (.getfield 297, 3) := by decide +kernel
theorem dX12_fault_45 : decode cX12_fault 45 = .ok (.ireturn, 1) := by decide +kernel
theorem dL_law_352 : decode cL_law 352 = .ok (.aload_n 1, 1) := by decide +kernel
theorem dL_law_353 : decode cL_law 353 = .ok (.invokevirtual 144, 3) := by decide +kernel
theorem dL_law_356 : decode cL_law 356 = .ok (.aload_n 2, 1) := by decide +kernel
theorem dL_law_357 : decode cL_law 357 = .ok (.invokevirtual 147, 3) := by decide +kernel
theorem dL_law_360 : decode cL_law 360 = .ok (.if_icmp .eq 2089, 3) := by decide +kernel
theorem dL_law_477 : decode cL_law 477 = .ok (.aload_n 1, 1) := by decide +kernel
theorem dL_law_478 : decode cL_law 478 = .ok (.aload_n 0, 1) := by decide +kernel
theorem dL_law_479 : decode cL_law 479 = .ok (.iload 4, 2) := by decide +kernel
theorem dL_law_481 : decode cL_law 481 = .ok (.iconst 1, 1) := by decide +kernel
theorem dL_law_482 : decode cL_law 482 = .ok (.iadd, 1) := by decide +kernel
theorem dL_law_483 : decode cL_law 483 = .ok (.iaload, 1) := by decide +kernel
theorem dL_law_484 : decode cL_law 484 = .ok (.aload_n 3, 1) := by decide +kernel
theorem dL_law_485 : decode cL_law 485 = .ok (.invokestatic 154, 3) := by decide +kernel
theorem dL_law_488 : decode cL_law 488 = .ok (.istore 5, 2) := by decide +kernel
theorem dL_law_490 : decode cL_law 490 = .ok (.aload_n 2, 1) := by decide +kernel
theorem dL_law_491 : decode cL_law 491 = .ok (.aload_n 0, 1) := by decide +kernel
theorem dL_law_492 : decode cL_law 492 = .ok (.iload 4, 2) := by decide +kernel
theorem dL_law_494 : decode cL_law 494 = .ok (.iconst 1, 1) := by decide +kernel
theorem dL_law_495 : decode cL_law 495 = .ok (.iadd, 1) := by decide +kernel
theorem dL_law_496 : decode cL_law 496 = .ok (.iaload, 1) := by decide +kernel
theorem dL_law_497 : decode cL_law 497 = .ok (.invokevirtual 156, 3) := by decide +kernel
theorem dL_law_500 : decode cL_law 500 = .ok (.istore 6, 2) := by decide +kernel
theorem dL_law_502 : decode cL_law 502 = .ok (.aload_n 2, 1) := by decide +kernel
theorem dL_law_503 : decode cL_law 503 = .ok (.invokevirtual 136, 3) := by decide +kernel
theorem dL_law_506 : decode cL_law 506 = .ok (.iload 5, 2) := by decide +kernel
theorem dL_law_508 : decode cL_law 508 = .ok (.if_icmp .eq 5, 3) := by decide +kernel
theorem dL_law_513 : decode cL_law 513 = .ok (.iload 5, 2) := by decide +kernel
theorem dL_law_515 : decode cL_law 515 = .ok (.ifCond .ne 15, 3) := by decide +kernel
theorem dL_law_518 : decode cL_law 518 = .ok (.aload_n 3, 1) := by decide +kernel
theorem dL_law_519 : decode cL_law 519 = .ok (.iconst 0, 1) := by decide +kernel
theorem dL_law_520 : decode cL_law 520 = .ok (.laload, 1) := by decide +kernel
theorem dL_law_521 : decode cL_law 521 = .ok (.iload 6, 2) := by decide +kernel
theorem dL_law_523 : decode cL_law 523 = .ok (.i2l, 1) := by decide +kernel
theorem dL_law_524 : decode cL_law 524 = .ok (.lcmp, 1) := by decide +kernel
theorem dL_law_525 : decode cL_law 525 = .ok (.ifCond .eq 5, 3) := by decide +kernel
theorem dL_law_530 : decode cL_law 530 = .ok (.goto 1919, 3) := by decide +kernel
theorem dL_law_1881 : decode cL_law 1881 = .ok (.aload_n 1, 1) := by decide +kernel
theorem dL_law_1882 : decode cL_law 1882 = .ok (.aload_n 0, 1) := by decide +kernel
theorem dL_law_1883 : decode cL_law 1883 = .ok (.iload 4, 2) := by decide +kernel
theorem dL_law_1885 : decode cL_law 1885 = .ok (.iconst 1, 1) := by decide +kernel
theorem dL_law_1886 : decode cL_law 1886 = .ok (.iadd, 1) := by decide +kernel
theorem dL_law_1887 : decode cL_law 1887 = .ok (.iaload, 1) := by decide +kernel
theorem dL_law_1888 : decode cL_law 1888 = .ok (.aload_n 3, 1) := by decide +kernel
theorem dL_law_1889 : decode cL_law 1889 = .ok (.invokestatic 217, 3) := by decide +kernel
theorem dL_law_1892 : decode cL_law 1892 = .ok (.istore 5, 2) := by decide +kernel
theorem dL_law_1894 : decode cL_law 1894 = .ok (.aload_n 2, 1) := by decide +kernel
theorem dL_law_1895 : decode cL_law 1895 = .ok (.aload_n 0, 1) := by decide +kernel
theorem dL_law_1896 : decode cL_law 1896 = .ok (.iload 4, 2) := by decide +kernel
theorem dL_law_1898 : decode cL_law 1898 = .ok (.iconst 1, 1) := by decide +kernel
theorem dL_law_1899 : decode cL_law 1899 = .ok (.iadd, 1) := by decide +kernel
theorem dL_law_1900 : decode cL_law 1900 = .ok (.iaload, 1) := by decide +kernel
theorem dL_law_1901 : decode cL_law 1901 = .ok (.invokevirtual 219, 3) := by decide +kernel
theorem dL_law_1904 : decode cL_law 1904 = .ok (.istore 6, 2) := by decide +kernel
theorem dL_law_1906 : decode cL_law 1906 = .ok (.aload_n 2, 1) := by decide +kernel
theorem dL_law_1907 : decode cL_law 1907 = .ok (.invokevirtual 136, 3) := by decide +kernel
theorem dL_law_1910 : decode cL_law 1910 = .ok (.iload 5, 2) := by decide +kernel
theorem dL_law_1912 : decode cL_law 1912 = .ok (.if_icmp .eq 5, 3) := by decide +kernel
theorem dL_law_1917 : decode cL_law 1917 = .ok (.iload 5, 2) := by decide +kernel
theorem dL_law_1919 : decode cL_law 1919 = .ok (.ifCond .ne 15, 3) := by decide +kernel
theorem dL_law_1934 : decode cL_law 1934 = .ok (.goto 515, 3) := by decide +kernel
theorem dL_law_2449 : decode cL_law 2449 = .ok (.iinc 4 6, 3) := by decide +kernel
theorem dL_law_2452 : decode cL_law 2452 = .ok (.goto (-2419), 3) := by decide +kernel
theorem dL_law_2455 : decode cL_law 2455 = .ok (.iconst 1, 1) := by decide +kernel
theorem dL_law_2456 : decode cL_law 2456 = .ok (.ireturn, 1) := by decide +kernel
abbrev M_L_found : MRec := (yL_found, cL_found, 4, (some Jvm.ClassFile.FieldType.int), [((0 : Nat), (9 : Nat), (12 : Nat), (24 : Nat))])
theorem m_L_found : en_M M_L_found 3 := ⟨t_2272, t_0, ⟨by decide +kernel, by decide +kernel⟩, by decide +kernel, by decide +kernel, by decide +kernel⟩
abbrev M_X11_found : MRec := (yX11_found, cX11_found, 2, (some Jvm.ClassFile.FieldType.int), [])
theorem m_X11_found : en_M M_X11_found 1 := ⟨t_2276, t_1, ⟨by decide +kernel, by decide +kernel⟩, by decide +kernel, by decide +kernel, by decide +kernel⟩
abbrev M_X12_found : MRec := (yX12_found, cX12_found, 2, (some Jvm.ClassFile.FieldType.int), [])
theorem m_X12_found : en_M M_X12_found 1 := ⟨t_3149, t_14, ⟨by decide +kernel, by decide +kernel⟩, by decide +kernel, by decide +kernel, by decide +kernel⟩
abbrev M_X12_in : MRec := (yX12_in, cX12_in, 6, (some Jvm.ClassFile.FieldType.boolean), [])
theorem m_X12_in : en_M M_X12_in 3 := ⟨t_2820, t_14, ⟨by decide +kernel, by decide +kernel⟩, by decide +kernel, by decide +kernel, by decide +kernel⟩
abbrev M_X12_fails : MRec := (yX12_fails, cX12_fails, 3, (some Jvm.ClassFile.FieldType.boolean), [])
theorem m_X12_fails : en_M M_X12_fails 2 := ⟨t_2808, t_14, ⟨by decide +kernel, by decide +kernel⟩, by decide +kernel, by decide +kernel, by decide +kernel⟩
abbrev M_X12_thrown : MRec := (yX12_thrown, cX12_thrown, 1, (some Jvm.ClassFile.FieldType.int), [])
theorem m_X12_thrown : en_M M_X12_thrown 0 := ⟨t_2800, t_14, ⟨by decide +kernel, by decide +kernel⟩, by decide +kernel, by decide +kernel, by decide +kernel⟩
abbrev M_X11_again : MRec := (yX11_again, cX11_again, 1, (some Jvm.ClassFile.FieldType.int), [])
theorem m_X11_again : en_M M_X11_again 0 := ⟨t_624, t_1, ⟨by decide +kernel, by decide +kernel⟩, by decide +kernel, by decide +kernel, by decide +kernel⟩
abbrev M_X12_again : MRec := (yX12_again, cX12_again, 2, (some Jvm.ClassFile.FieldType.int), [])
theorem m_X12_again : en_M M_X12_again 0 := ⟨t_2824, t_14, ⟨by decide +kernel, by decide +kernel⟩, by decide +kernel, by decide +kernel, by decide +kernel⟩
abbrev M_L_fault : MRec := (yL_fault, cL_fault, 4, (some Jvm.ClassFile.FieldType.int), [((0 : Nat), (9 : Nat), (12 : Nat), (24 : Nat))])
theorem m_L_fault : en_M M_L_fault 3 := ⟨t_1035, t_0, ⟨by decide +kernel, by decide +kernel⟩, by decide +kernel, by decide +kernel, by decide +kernel⟩
abbrev M_X11_fault : MRec := (yX11_fault, cX11_fault, 2, (some Jvm.ClassFile.FieldType.int), [])
theorem m_X11_fault : en_M M_X11_fault 1 := ⟨t_1039, t_1, ⟨by decide +kernel, by decide +kernel⟩, by decide +kernel, by decide +kernel, by decide +kernel⟩
abbrev M_X12_fault : MRec := (yX12_fault, cX12_fault, 2, (some Jvm.ClassFile.FieldType.int), [])
theorem m_X12_fault : en_M M_X12_fault 1 := ⟨t_2828, t_14, ⟨by decide +kernel, by decide +kernel⟩, by decide +kernel, by decide +kernel, by decide +kernel⟩
set_option maxRecDepth 10000 in
theorem q2 {l : Launch} {E : EE} (hl : l.stackTraces = false) {h : HP} {a0 : Int32} (c0 : a0.toInt < 0) : en_C l E M_X11_found 6 1 6 [.ref 32, .int a0] h (pT "java/lang/IndexOutOfBoundsException" [] h (fun _ => True)) := by
  refine en_mk m_X11_found rfl hl (Nat.le_of_ble_eq_true rfl) ?_
  refine x_iload_n (M := M_X11_found) dX11_found_0 rfl ?_
  refine x_if_lt (M := M_X11_found) (tgt := 12) dX11_found_1 (by decide) (fun _ => ?_) (fun q => absurd ((bi_lt rfl (by decide +kernel)).mpr (by omega : (a0.toInt < 0 : Prop))) q)
  exact x_throw (M := M_X11_found) (names := en_nm) rfl dX11_found_12 dX11_found_15 dX11_found_16 dX11_found_19 (by decide +kernel) en_nm_ok (Or.inl t_748) (Or.inl t_22) (at_X11_IndexOutOfBoundsException_139) (Nat.le_of_ble_eq_true rfl) (Nat.le_of_ble_eq_true rfl) (Nat.le_of_ble_eq_true rfl) (Nat.le_of_ble_eq_true rfl) (fun n9 => ⟨rfl, (fr_tr (fr_app (List.replicate n9 none)) (fun _ h => nomatch h) fr_rf), trivial⟩)
set_option maxRecDepth 10000 in
theorem q7 {l : Launch} {E : EE} (hl : l.stackTraces = false) {h : HP} {a0 : Int32} (c0 : a0.toInt < 0) (o3 : ob h 32 = some (.inr (14, [.ref 33, .ref 162, .ref 166, .int (0 : Int32), .int (0 : Int32), .int (0 : Int32), .ref 167, .ref 170, .ref 173, .ref 177, .ref 193, .ref 208, .ref 222, .ref 238, .ref 252, .ref 274, .ref 275, .ref 276, .int (0 : Int32)]))) : en_C l E M_L_found 7 1 6 [.ref 32, .int a0, .ref 359] h (pF (some (.int (Int32.ofInt 1))) [] h (fun _ => True)) := by
  refine en_mkW m_L_found rfl hl (Nat.le_of_ble_eq_true rfl) ?_
  refine x_aload_n (M := M_L_found) dL_found_0 rfl ?_
  refine x_iconst (M := M_L_found) dL_found_1 ?_
  refine x_aload_n (M := M_L_found) dL_found_2 rfl ?_
  refine x_iload_n (M := M_L_found) dL_found_3 rfl ?_
  refine y_callVHX (M := M_L_found) (M' := M_X11_found) (i9 := 3) (nx := 13) rfl dL_found_4 m_X11_found t_2273 t_2274 t_2275 o3 rfl (q2 hl c0) rfl rfl (Nat.le_of_ble_eq_true rfl) (Nat.le_of_ble_eq_true rfl) (Nat.le_of_ble_eq_true rfl) (Nat.le_of_ble_eq_true rfl) (en_hdn (k0 := 3) [] [] rfl (fun _ h => nomatch h) (by decide +kernel) (by decide) t_739 n_750 dL_found_12) (by decide) rfl (fun h4 f5 w6 => ?_)
  refine x_iconst (M := M_L_found) dL_found_13 ?_
  exact x_iret (M := M_L_found) dL_found_14 rfl ⟨rfl, (fr_tr f5 (fun _ h => nomatch h) fr_rf), trivial⟩ (Nat.le_of_ble_eq_true rfl) (Nat.le_of_ble_eq_true rfl)
set_option maxRecDepth 10000 in
theorem q16 {l : Launch} {E : EE} (hl : l.stackTraces = false) {h : HP} {a0 : Int32} (c0 : a0.toInt < 0) : en_C l E M_X12_in 0 0 0 [.long (a0.toInt64), .long (Int64.ofInt 0), .long (Int64.ofInt (-1))] h (pR (some (.int (Int32.ofInt 0))) h) := by
  refine en_mk m_X12_in rfl hl (Nat.le_of_ble_eq_true rfl) ?_
  refine x_lload_n (M := M_X12_in) dX12_in_0 rfl ?_
  refine x_lload_n (M := M_X12_in) dX12_in_1 rfl ?_
  refine x_lcmp (M := M_X12_in) dX12_in_2 ?_
  refine x_if_lt (M := M_X12_in) (tgt := 17) dX12_in_3 (by decide) (fun _ => ?_) (fun q => absurd ((bc_lt (i_i2l rfl) (by decide +kernel)).mpr (by omega : (a0.toInt < 0 : Prop))) q)
  refine x_iconst (M := M_X12_in) dX12_in_17 ?_
  exact x_zret (M := M_X12_in) dX12_in_18 rfl (by decide) ⟨rfl, rfl⟩ (Nat.le_of_ble_eq_true rfl) (Nat.le_of_ble_eq_true rfl)
set_option maxRecDepth 10000 in
theorem q22 {l : Launch} {E : EE} (hl : l.stackTraces = false) {h : HP} {dg : Int32} (o17 : ob h 277 = some (.inr (15, ((RB dg).set 0 (.int (Int32.ofInt 0)))))) : en_C l E M_X12_fails 0 0 0 [.ref 277, .int (Int32.ofInt 1), .int (Int32.ofInt 1)] h (pF (some (.int (Int32.ofInt 1))) [277] h (fun h' => ob h' 277 = some (.inr (15, ((RB dg).set 0 (.int (Int32.ofInt 1))))) ∧ True)) := by
  refine en_mk m_X12_fails rfl hl (Nat.le_of_ble_eq_true rfl) ?_
  refine x_aload_n (M := M_X12_fails) dX12_fails_0 rfl ?_
  refine x_iload_n (M := M_X12_fails) dX12_fails_1 rfl ?_
  refine x_if_eq (M := M_X12_fails) (tgt := 16) dX12_fails_2 (by decide) (fun q => absurd q (by decide +kernel)) (fun _ => ?_)
  refine x_aload_n (M := M_X12_fails) dX12_fails_5 rfl ?_
  refine x_getf (M := M_X12_fails) (ci := 15) (C := RX12) (T := TX12) (N := 135) (ty := tyX12) cl15 dX12_fails_6 o17 0 (by decide) t_2391 (v := .int (Int32.ofInt 0)) rfl ?_
  refine x_if_ne (M := M_X12_fails) (tgt := 16) dX12_fails_9 (by decide) (fun q => absurd q (by decide +kernel)) (fun _ => ?_)
  refine x_iload_n (M := M_X12_fails) dX12_fails_12 rfl ?_
  refine x_goto (M := M_X12_fails) (tgt := 20) dX12_fails_13 (by decide) ?_
  refine y_put (M := M_X12_fails) (ci := 15) (C := RX12) (T := TX12) (N := 135) (ty := tyX12) cl15 dX12_fails_20 o17 0 (by decide) t_2391 (Or.inl rfl) (Nat.le_of_ble_eq_true rfl) rfl (fun h18 w19 f20 => ?_)
  have w21 : ob h18 277 = some (.inr (15, ((RB dg).set 0 (.int (Int32.ofInt 1))))) := by rw [w19, List.set_set]
  refine x_aload_n (M := M_X12_fails) dX12_fails_23 rfl ?_
  refine x_getf (M := M_X12_fails) (ci := 15) (C := RX12) (T := TX12) (N := 135) (ty := tyX12) cl15 dX12_fails_24 w21 0 (by decide) t_2391 (v := .int (Int32.ofInt 1)) rfl ?_
  refine x_if_eq (M := M_X12_fails) (tgt := 34) dX12_fails_27 (by decide) (fun q => absurd q (by decide +kernel)) (fun _ => ?_)
  refine x_iconst (M := M_X12_fails) dX12_fails_30 ?_
  refine x_goto (M := M_X12_fails) (tgt := 35) dX12_fails_31 (by decide) ?_
  exact x_zret (M := M_X12_fails) dX12_fails_35 rfl (by decide) ⟨rfl, (fr_tr f20 (by decide) fr_rf), ⟨w21, trivial⟩⟩ (Nat.le_of_ble_eq_true rfl) (Nat.le_of_ble_eq_true rfl)
set_option maxRecDepth 10000 in
theorem q27 {l : Launch} {E : EE} (hl : l.stackTraces = false) {h : HP} {a0 : Int32} {dg : Int32} (c0 : a0.toInt < 0) (o12 : ob h 277 = some (.inr (15, (RB dg)))) : en_C l E M_X12_found 1 0 0 [.ref 277, .int a0] h (pF (some (.int (Int32.ofInt 0))) [277] h (fun h' => ob h' 277 = some (.inr (15, ((RB dg).set 0 (.int (Int32.ofInt 1))))) ∧ True)) := by
  refine en_mk m_X12_found rfl hl (Nat.le_of_ble_eq_true rfl) ?_
  refine x_aload_n (M := M_X12_found) dX12_found_0 rfl ?_
  refine x_iconst (M := M_X12_found) dX12_found_1 ?_
  refine y_put (M := M_X12_found) (ci := 15) (C := RX12) (T := TX12) (N := 135) (ty := tyX12) cl15 dX12_found_2 o12 0 (by decide) t_2391 (Or.inl rfl) (Nat.le_of_ble_eq_true rfl) rfl (fun h13 w14 f15 => ?_)
  refine x_aload_n (M := M_X12_found) dX12_found_5 rfl ?_
  refine x_iload_n (M := M_X12_found) dX12_found_6 rfl ?_
  refine x_i2l (M := M_X12_found) dX12_found_7 ?_
  refine x_lconst (M := M_X12_found) dX12_found_8 ?_
  refine x_aload_n (M := M_X12_found) dX12_found_9 rfl ?_
  refine x_getf (M := M_X12_found) (ci := 15) (C := RX12) (T := TX12) (N := 135) (ty := tyX12) cl15 dX12_found_10 w14 16 (by decide) t_2407 (v := .int (0 : Int32)) rfl ?_
  refine x_iconst (M := M_X12_found) dX12_found_13 ?_
  refine x_isub (M := M_X12_found) dX12_found_14 ?_
  refine x_i2l (M := M_X12_found) dX12_found_15 ?_
  refine x_norm (M := M_X12_found) (st' := [.long (Int64.ofInt (-1)), .long (Int64.ofInt 0), .long (a0.toInt64), .ref 277]) rfl (by rw [(by decide +kernel : (((0 : Int32) - (Int32.ofInt 1)).toInt64) = (Int64.ofInt (-1))), (by decide +kernel : (Int64.ofNat ((0 : Fin 2) : Nat)) = (Int64.ofInt 0))] <;> rfl) rfl rfl rfl ?_
  refine x_callSR (M := M_X12_found) (M' := M_X12_in) rfl rfl dX12_found_16 m_X12_in t_2818 t_2819 (q16 hl c0) rfl rfl (Nat.le_of_ble_eq_true rfl) (Nat.le_of_ble_eq_true rfl) (Nat.le_of_ble_eq_true rfl) (Nat.le_of_ble_eq_true rfl) ?_
  refine x_if_ne (M := M_X12_found) (tgt := 26) dX12_found_19 (by decide) (fun q => absurd q (by decide +kernel)) (fun _ => ?_)
  refine x_iconst (M := M_X12_found) dX12_found_22 ?_
  refine x_goto (M := M_X12_found) (tgt := 27) dX12_found_23 (by decide) ?_
  refine x_iconst (M := M_X12_found) dX12_found_27 ?_
  refine y_callVR (M := M_X12_found) (M' := M_X12_fails) rfl rfl dX12_found_28 m_X12_fails t_2805 t_2807 s_157 (q22 hl w14) rfl rfl w14 rfl (Nat.le_of_ble_eq_true rfl) (Nat.le_of_ble_eq_true rfl) (Nat.le_of_ble_eq_true rfl) (Nat.le_of_ble_eq_true rfl) (fun h23 f24 w25 => ?_)
  obtain ⟨o26, -⟩ := w25
  refine x_if_eq (M := M_X12_found) (tgt := 36) dX12_found_31 (by decide) (fun q => absurd q (by decide +kernel)) (fun _ => ?_)
  refine x_iconst (M := M_X12_found) dX12_found_34 ?_
  exact x_iret (M := M_X12_found) dX12_found_35 rfl ⟨rfl, (fr_tr f24 (by decide) (fr_tr f15 (by decide) fr_rf)), ⟨o26, trivial⟩⟩ (Nat.le_of_ble_eq_true rfl) (Nat.le_of_ble_eq_true rfl)
set_option maxRecDepth 10000 in
theorem q35 {l : Launch} {E : EE} (hl : l.stackTraces = false) {h : HP} {dg : Int32} (o34 : ob h 277 = some (.inr (15, ((RB dg).set 0 (.int (Int32.ofInt 1)))))) : en_C l E M_X12_thrown 0 0 0 [.ref 277] h (pR (some (.int (Int32.ofInt 1))) h) := by
  refine en_mk m_X12_thrown rfl hl (Nat.le_of_ble_eq_true rfl) ?_
  refine x_aload_n (M := M_X12_thrown) dX12_thrown_0 rfl ?_
  refine x_getf (M := M_X12_thrown) (ci := 15) (C := RX12) (T := TX12) (N := 135) (ty := tyX12) cl15 dX12_thrown_1 o34 0 (by decide) t_2391 (v := .int (Int32.ofInt 1)) rfl ?_
  exact x_iret (M := M_X12_thrown) dX12_thrown_4 rfl ⟨rfl, rfl⟩ (Nat.le_of_ble_eq_true rfl) (Nat.le_of_ble_eq_true rfl)
set_option maxRecDepth 10000 in
theorem lc25_0 {l : Launch} {E : EE} (hl : l.stackTraces = false) (nm : String) {xs : Nat → Int32} (hx : E.2.2.2.2 0 = some (7, xs)) {h : HP} {a0 : Int32} {dg : Int32} (e2 : xs 2 = a0) (c0 : a0.toInt < 0) (o8 : ob h 32 = some (.inr (14, [.ref 33, .ref 162, .ref 166, .int (0 : Int32), .int (0 : Int32), .int (0 : Int32), .ref 167, .ref 170, .ref 173, .ref 177, .ref 193, .ref 208, .ref 222, .ref 238, .ref 252, .ref 274, .ref 275, .ref 276, .int (0 : Int32)]))) (o28 : ob h 277 = some (.inr (15, (RB dg)))) : XX l E (M_law nm) 1312 342628 8074320 (fun o _ => o = .inl (some (.int 1))) 1881 [some (.ref 0), some (.ref 32), some (.ref 277), some (.ref 359), some (.int (Int32.ofInt 1)), none, none, none] [] h 328 2463747 := by
  refine x_aload_n (M := (M_law nm)) dL_law_1881 rfl ?_
  refine x_aload_n (M := (M_law nm)) dL_law_1882 rfl ?_
  refine x_iload (M := (M_law nm)) dL_law_1883 rfl ?_
  refine x_iconst (M := (M_law nm)) dL_law_1885 ?_
  refine x_iadd (M := (M_law nm)) dL_law_1886 ?_
  refine x_sald (M := (M_law nm)) dL_law_1887 (by decide) hx (vp_inD (by decide +kernel)) ?_
  refine x_top (M := (M_law nm)) (y := a0) ((congrArg xs (by decide +kernel : ((Int32.ofInt 1) + (Int32.ofInt 1)).toNatClampNeg = 2)).trans e2) ?_
  refine x_aload_n (M := (M_law nm)) dL_law_1888 rfl ?_
  refine y_callSW (M := (M_law nm)) (M' := M_L_found) rfl rfl dL_law_1889 m_L_found t_2270 t_2271 (q7 hl c0 o8) rfl rfl (Nat.le_of_ble_eq_true rfl) (Nat.le_of_ble_eq_true rfl) (Nat.le_of_ble_eq_true rfl) (Nat.le_of_ble_eq_true rfl) (fun h9 f10 w11 => ?_)
  refine x_istore (M := (M_law nm)) dL_law_1892 (Nat.le_of_ble_eq_true rfl) rfl ?_
  refine x_aload_n (M := (M_law nm)) dL_law_1894 rfl ?_
  refine x_aload_n (M := (M_law nm)) dL_law_1895 rfl ?_
  refine x_iload (M := (M_law nm)) dL_law_1896 rfl ?_
  refine x_iconst (M := (M_law nm)) dL_law_1898 ?_
  refine x_iadd (M := (M_law nm)) dL_law_1899 ?_
  refine x_sald (M := (M_law nm)) dL_law_1900 (by decide) hx (vp_inD (by decide +kernel)) ?_
  refine x_top (M := (M_law nm)) (y := a0) ((congrArg xs (by decide +kernel : ((Int32.ofInt 1) + (Int32.ofInt 1)).toNatClampNeg = 2)).trans e2) ?_
  have o29 := (f10 277 _ (by decide) o28)
  refine y_callVR (M := (M_law nm)) (M' := M_X12_found) rfl rfl dL_law_1901 m_X12_found t_3146 t_3147 t_3148 (q27 hl c0 o29) rfl rfl o29 rfl (Nat.le_of_ble_eq_true rfl) (Nat.le_of_ble_eq_true rfl) (Nat.le_of_ble_eq_true rfl) (Nat.le_of_ble_eq_true rfl) (fun h30 f31 w32 => ?_)
  obtain ⟨o33, -⟩ := w32
  refine x_istore (M := (M_law nm)) dL_law_1904 (Nat.le_of_ble_eq_true rfl) rfl ?_
  refine x_aload_n (M := (M_law nm)) dL_law_1906 rfl ?_
  refine x_callVR (M := (M_law nm)) (M' := M_X12_thrown) rfl rfl dL_law_1907 m_X12_thrown t_2797 t_2798 t_2799 (q35 hl o33) rfl rfl o33 rfl (Nat.le_of_ble_eq_true rfl) (Nat.le_of_ble_eq_true rfl) (Nat.le_of_ble_eq_true rfl) (Nat.le_of_ble_eq_true rfl) ?_
  refine x_iload (M := (M_law nm)) dL_law_1910 rfl ?_
  refine x_icmp_eq (M := (M_law nm)) (tgt := 1917) dL_law_1912 (by decide) (fun _ => ?_) (fun q => absurd q (by decide +kernel))
  refine x_iload (M := (M_law nm)) dL_law_1917 rfl ?_
  refine x_if_ne (M := (M_law nm)) (tgt := 1934) dL_law_1919 (by decide) (fun _ => ?_) (fun q => absurd q (by decide +kernel))
  refine x_goto (M := (M_law nm)) (tgt := 2449) dL_law_1934 (by decide) ?_
  refine x_iinc (M := (M_law nm)) dL_law_2449 rfl (Nat.le_of_ble_eq_true rfl) rfl ?_
  refine x_lvs (M := (M_law nm)) (lv' := [some (.ref 0), some (.ref 32), some (.ref 277), some (.ref 359), some (.int (Int32.ofInt 7)), some (.int (Int32.ofInt 1)), some (.int (Int32.ofInt 0)), none]) (by rw [(by decide +kernel : (Int32.ofInt 1) + Int32.ofInt 6 = (Int32.ofInt 7))] <;> rfl) ?_
  refine x_goto (M := (M_law nm)) (tgt := 33) dL_law_2452 (by decide) ?_
  refine x_iload (M := (M_law nm)) dL_law_33 rfl ?_
  refine x_aload_n (M := (M_law nm)) dL_law_35 rfl ?_
  refine x_slen (M := (M_law nm)) dL_law_36 (by decide) hx ?_
  refine x_bipush (M := (M_law nm)) dL_law_37 ?_
  refine x_isub (M := (M_law nm)) dL_law_39 ?_
  refine x_icmp_gt (M := (M_law nm)) (tgt := 2455) dL_law_40 (by decide) (fun _ => ?_) (fun q => absurd q (by decide +kernel))
  refine x_iconst (M := (M_law nm)) dL_law_2455 ?_
  exact x_zret (M := (M_law nm)) dL_law_2456 rfl (by decide) rfl (Nat.le_of_ble_eq_true rfl) (Nat.le_of_ble_eq_true rfl)
set_option maxRecDepth 10000 in
theorem q38 {l : Launch} {E : EE} (hl : l.stackTraces = false) {h : HP} {a0 : Int32} (c0 : ¬ (a0.toInt < 0)) (o36 : ob h 32 = some (.inr (14, [.ref 33, .ref 162, .ref 166, .int (0 : Int32), .int (0 : Int32), .int (0 : Int32), .ref 167, .ref 170, .ref 173, .ref 177, .ref 193, .ref 208, .ref 222, .ref 238, .ref 252, .ref 274, .ref 275, .ref 276, .int (0 : Int32)]))) : en_C l E M_X11_found 6 1 6 [.ref 32, .int a0] h (pT "java/lang/IndexOutOfBoundsException" [] h (fun _ => True)) := by
  refine en_mk m_X11_found rfl hl (Nat.le_of_ble_eq_true rfl) ?_
  refine x_iload_n (M := M_X11_found) dX11_found_0 rfl ?_
  refine x_if_lt (M := M_X11_found) (tgt := 12) dX11_found_1 (by decide) (fun q => absurd ((bi_lt rfl (by decide +kernel)).mp q) (by omega : ¬ (a0.toInt < 0))) (fun _ => ?_)
  refine x_iload_n (M := M_X11_found) dX11_found_4 rfl ?_
  refine x_aload_n (M := M_X11_found) dX11_found_5 rfl ?_
  refine x_getf (M := M_X11_found) (ci := 14) (C := RX11) (T := TX11) (N := 19) (ty := tyX11) cl14 dX11_found_6 o36 18 (by decide) t_581 (v := .int (0 : Int32)) rfl ?_
  refine x_icmp_lt (M := M_X11_found) (tgt := 20) dX11_found_9 (by decide) (fun q => absurd ((bi_lt rfl (by decide +kernel)).mp q) (by omega : ¬ (a0.toInt < 0))) (fun _ => ?_)
  exact x_throw (M := M_X11_found) (names := en_nm) rfl dX11_found_12 dX11_found_15 dX11_found_16 dX11_found_19 (by decide +kernel) en_nm_ok (Or.inl t_748) (Or.inl t_22) (at_X11_IndexOutOfBoundsException_139) (Nat.le_of_ble_eq_true rfl) (Nat.le_of_ble_eq_true rfl) (Nat.le_of_ble_eq_true rfl) (Nat.le_of_ble_eq_true rfl) (fun n9 => ⟨rfl, (fr_tr (fr_app (List.replicate n9 none)) (fun _ h => nomatch h) fr_rf), trivial⟩)
set_option maxRecDepth 10000 in
theorem q43 {l : Launch} {E : EE} (hl : l.stackTraces = false) {h : HP} {a0 : Int32} (c0 : ¬ (a0.toInt < 0)) (o39 : ob h 32 = some (.inr (14, [.ref 33, .ref 162, .ref 166, .int (0 : Int32), .int (0 : Int32), .int (0 : Int32), .ref 167, .ref 170, .ref 173, .ref 177, .ref 193, .ref 208, .ref 222, .ref 238, .ref 252, .ref 274, .ref 275, .ref 276, .int (0 : Int32)]))) : en_C l E M_L_found 7 1 6 [.ref 32, .int a0, .ref 359] h (pF (some (.int (Int32.ofInt 1))) [] h (fun _ => True)) := by
  refine en_mkW m_L_found rfl hl (Nat.le_of_ble_eq_true rfl) ?_
  refine x_aload_n (M := M_L_found) dL_found_0 rfl ?_
  refine x_iconst (M := M_L_found) dL_found_1 ?_
  refine x_aload_n (M := M_L_found) dL_found_2 rfl ?_
  refine x_iload_n (M := M_L_found) dL_found_3 rfl ?_
  refine y_callVHX (M := M_L_found) (M' := M_X11_found) (i9 := 3) (nx := 13) rfl dL_found_4 m_X11_found t_2273 t_2274 t_2275 o39 rfl (q38 hl c0 o39) rfl rfl (Nat.le_of_ble_eq_true rfl) (Nat.le_of_ble_eq_true rfl) (Nat.le_of_ble_eq_true rfl) (Nat.le_of_ble_eq_true rfl) (en_hdn (k0 := 3) [] [] rfl (fun _ h => nomatch h) (by decide +kernel) (by decide) t_739 n_750 dL_found_12) (by decide) rfl (fun h40 f41 w42 => ?_)
  refine x_iconst (M := M_L_found) dL_found_13 ?_
  exact x_iret (M := M_L_found) dL_found_14 rfl ⟨rfl, (fr_tr f41 (fun _ h => nomatch h) fr_rf), trivial⟩ (Nat.le_of_ble_eq_true rfl) (Nat.le_of_ble_eq_true rfl)
set_option maxRecDepth 10000 in
theorem q52 {l : Launch} {E : EE} (hl : l.stackTraces = false) {h : HP} {a0 : Int32} (c0 : ¬ (a0.toInt < 0)) : en_C l E M_X12_in 0 0 0 [.long (a0.toInt64), .long (Int64.ofInt 0), .long (Int64.ofInt (-1))] h (pR (some (.int (Int32.ofInt 0))) h) := by
  refine en_mk m_X12_in rfl hl (Nat.le_of_ble_eq_true rfl) ?_
  refine x_lload_n (M := M_X12_in) dX12_in_0 rfl ?_
  refine x_lload_n (M := M_X12_in) dX12_in_1 rfl ?_
  refine x_lcmp (M := M_X12_in) dX12_in_2 ?_
  refine x_if_lt (M := M_X12_in) (tgt := 17) dX12_in_3 (by decide) (fun q => absurd ((bc_lt (i_i2l rfl) (by decide +kernel)).mp q) (by omega : ¬ (a0.toInt < 0))) (fun _ => ?_)
  refine x_lload_n (M := M_X12_in) dX12_in_6 rfl ?_
  refine x_lload (M := M_X12_in) dX12_in_7 rfl ?_
  refine x_lcmp (M := M_X12_in) dX12_in_9 ?_
  refine x_if_gt (M := M_X12_in) (tgt := 17) dX12_in_10 (by decide) (fun _ => ?_) (fun q => absurd ((bc_gt (i_i2l rfl) (by decide +kernel)).mpr (by omega : ((-1) < a0.toInt : Prop))) q)
  refine x_iconst (M := M_X12_in) dX12_in_17 ?_
  exact x_zret (M := M_X12_in) dX12_in_18 rfl (by decide) ⟨rfl, rfl⟩ (Nat.le_of_ble_eq_true rfl) (Nat.le_of_ble_eq_true rfl)
set_option maxRecDepth 10000 in
theorem q57 {l : Launch} {E : EE} (hl : l.stackTraces = false) {h : HP} {a0 : Int32} {dg : Int32} (c0 : ¬ (a0.toInt < 0)) (o48 : ob h 277 = some (.inr (15, (RB dg)))) : en_C l E M_X12_found 1 0 0 [.ref 277, .int a0] h (pF (some (.int (Int32.ofInt 0))) [277] h (fun h' => ob h' 277 = some (.inr (15, ((RB dg).set 0 (.int (Int32.ofInt 1))))) ∧ True)) := by
  refine en_mk m_X12_found rfl hl (Nat.le_of_ble_eq_true rfl) ?_
  refine x_aload_n (M := M_X12_found) dX12_found_0 rfl ?_
  refine x_iconst (M := M_X12_found) dX12_found_1 ?_
  refine y_put (M := M_X12_found) (ci := 15) (C := RX12) (T := TX12) (N := 135) (ty := tyX12) cl15 dX12_found_2 o48 0 (by decide) t_2391 (Or.inl rfl) (Nat.le_of_ble_eq_true rfl) rfl (fun h49 w50 f51 => ?_)
  refine x_aload_n (M := M_X12_found) dX12_found_5 rfl ?_
  refine x_iload_n (M := M_X12_found) dX12_found_6 rfl ?_
  refine x_i2l (M := M_X12_found) dX12_found_7 ?_
  refine x_lconst (M := M_X12_found) dX12_found_8 ?_
  refine x_aload_n (M := M_X12_found) dX12_found_9 rfl ?_
  refine x_getf (M := M_X12_found) (ci := 15) (C := RX12) (T := TX12) (N := 135) (ty := tyX12) cl15 dX12_found_10 w50 16 (by decide) t_2407 (v := .int (0 : Int32)) rfl ?_
  refine x_iconst (M := M_X12_found) dX12_found_13 ?_
  refine x_isub (M := M_X12_found) dX12_found_14 ?_
  refine x_i2l (M := M_X12_found) dX12_found_15 ?_
  refine x_norm (M := M_X12_found) (st' := [.long (Int64.ofInt (-1)), .long (Int64.ofInt 0), .long (a0.toInt64), .ref 277]) rfl (by rw [(by decide +kernel : (((0 : Int32) - (Int32.ofInt 1)).toInt64) = (Int64.ofInt (-1))), (by decide +kernel : (Int64.ofNat ((0 : Fin 2) : Nat)) = (Int64.ofInt 0))] <;> rfl) rfl rfl rfl ?_
  refine x_callSR (M := M_X12_found) (M' := M_X12_in) rfl rfl dX12_found_16 m_X12_in t_2818 t_2819 (q52 hl c0) rfl rfl (Nat.le_of_ble_eq_true rfl) (Nat.le_of_ble_eq_true rfl) (Nat.le_of_ble_eq_true rfl) (Nat.le_of_ble_eq_true rfl) ?_
  refine x_if_ne (M := M_X12_found) (tgt := 26) dX12_found_19 (by decide) (fun q => absurd q (by decide +kernel)) (fun _ => ?_)
  refine x_iconst (M := M_X12_found) dX12_found_22 ?_
  refine x_goto (M := M_X12_found) (tgt := 27) dX12_found_23 (by decide) ?_
  refine x_iconst (M := M_X12_found) dX12_found_27 ?_
  refine y_callVR (M := M_X12_found) (M' := M_X12_fails) rfl rfl dX12_found_28 m_X12_fails t_2805 t_2807 s_157 (q22 hl w50) rfl rfl w50 rfl (Nat.le_of_ble_eq_true rfl) (Nat.le_of_ble_eq_true rfl) (Nat.le_of_ble_eq_true rfl) (Nat.le_of_ble_eq_true rfl) (fun h53 f54 w55 => ?_)
  obtain ⟨o56, -⟩ := w55
  refine x_if_eq (M := M_X12_found) (tgt := 36) dX12_found_31 (by decide) (fun q => absurd q (by decide +kernel)) (fun _ => ?_)
  refine x_iconst (M := M_X12_found) dX12_found_34 ?_
  exact x_iret (M := M_X12_found) dX12_found_35 rfl ⟨rfl, (fr_tr f54 (by decide) (fr_tr f51 (by decide) fr_rf)), ⟨o56, trivial⟩⟩ (Nat.le_of_ble_eq_true rfl) (Nat.le_of_ble_eq_true rfl)
set_option maxRecDepth 10000 in
theorem lc25_1 {l : Launch} {E : EE} (hl : l.stackTraces = false) (nm : String) {xs : Nat → Int32} (hx : E.2.2.2.2 0 = some (7, xs)) {h : HP} {a0 : Int32} {dg : Int32} (e2 : xs 2 = a0) (c0 : ¬ (a0.toInt < 0)) (o44 : ob h 32 = some (.inr (14, [.ref 33, .ref 162, .ref 166, .int (0 : Int32), .int (0 : Int32), .int (0 : Int32), .ref 167, .ref 170, .ref 173, .ref 177, .ref 193, .ref 208, .ref 222, .ref 238, .ref 252, .ref 274, .ref 275, .ref 276, .int (0 : Int32)]))) (o58 : ob h 277 = some (.inr (15, (RB dg)))) : XX l E (M_law nm) 1312 342628 8074320 (fun o _ => o = .inl (some (.int 1))) 1881 [some (.ref 0), some (.ref 32), some (.ref 277), some (.ref 359), some (.int (Int32.ofInt 1)), none, none, none] [] h 328 2463747 := by
  refine x_aload_n (M := (M_law nm)) dL_law_1881 rfl ?_
  refine x_aload_n (M := (M_law nm)) dL_law_1882 rfl ?_
  refine x_iload (M := (M_law nm)) dL_law_1883 rfl ?_
  refine x_iconst (M := (M_law nm)) dL_law_1885 ?_
  refine x_iadd (M := (M_law nm)) dL_law_1886 ?_
  refine x_sald (M := (M_law nm)) dL_law_1887 (by decide) hx (vp_inD (by decide +kernel)) ?_
  refine x_top (M := (M_law nm)) (y := a0) ((congrArg xs (by decide +kernel : ((Int32.ofInt 1) + (Int32.ofInt 1)).toNatClampNeg = 2)).trans e2) ?_
  refine x_aload_n (M := (M_law nm)) dL_law_1888 rfl ?_
  refine y_callSW (M := (M_law nm)) (M' := M_L_found) rfl rfl dL_law_1889 m_L_found t_2270 t_2271 (q43 hl c0 o44) rfl rfl (Nat.le_of_ble_eq_true rfl) (Nat.le_of_ble_eq_true rfl) (Nat.le_of_ble_eq_true rfl) (Nat.le_of_ble_eq_true rfl) (fun h45 f46 w47 => ?_)
  refine x_istore (M := (M_law nm)) dL_law_1892 (Nat.le_of_ble_eq_true rfl) rfl ?_
  refine x_aload_n (M := (M_law nm)) dL_law_1894 rfl ?_
  refine x_aload_n (M := (M_law nm)) dL_law_1895 rfl ?_
  refine x_iload (M := (M_law nm)) dL_law_1896 rfl ?_
  refine x_iconst (M := (M_law nm)) dL_law_1898 ?_
  refine x_iadd (M := (M_law nm)) dL_law_1899 ?_
  refine x_sald (M := (M_law nm)) dL_law_1900 (by decide) hx (vp_inD (by decide +kernel)) ?_
  refine x_top (M := (M_law nm)) (y := a0) ((congrArg xs (by decide +kernel : ((Int32.ofInt 1) + (Int32.ofInt 1)).toNatClampNeg = 2)).trans e2) ?_
  have o59 := (f46 277 _ (by decide) o58)
  refine y_callVR (M := (M_law nm)) (M' := M_X12_found) rfl rfl dL_law_1901 m_X12_found t_3146 t_3147 t_3148 (q57 hl c0 o59) rfl rfl o59 rfl (Nat.le_of_ble_eq_true rfl) (Nat.le_of_ble_eq_true rfl) (Nat.le_of_ble_eq_true rfl) (Nat.le_of_ble_eq_true rfl) (fun h60 f61 w62 => ?_)
  obtain ⟨o63, -⟩ := w62
  refine x_istore (M := (M_law nm)) dL_law_1904 (Nat.le_of_ble_eq_true rfl) rfl ?_
  refine x_aload_n (M := (M_law nm)) dL_law_1906 rfl ?_
  refine x_callVR (M := (M_law nm)) (M' := M_X12_thrown) rfl rfl dL_law_1907 m_X12_thrown t_2797 t_2798 t_2799 (q35 hl o63) rfl rfl o63 rfl (Nat.le_of_ble_eq_true rfl) (Nat.le_of_ble_eq_true rfl) (Nat.le_of_ble_eq_true rfl) (Nat.le_of_ble_eq_true rfl) ?_
  refine x_iload (M := (M_law nm)) dL_law_1910 rfl ?_
  refine x_icmp_eq (M := (M_law nm)) (tgt := 1917) dL_law_1912 (by decide) (fun _ => ?_) (fun q => absurd q (by decide +kernel))
  refine x_iload (M := (M_law nm)) dL_law_1917 rfl ?_
  refine x_if_ne (M := (M_law nm)) (tgt := 1934) dL_law_1919 (by decide) (fun _ => ?_) (fun q => absurd q (by decide +kernel))
  refine x_goto (M := (M_law nm)) (tgt := 2449) dL_law_1934 (by decide) ?_
  refine x_iinc (M := (M_law nm)) dL_law_2449 rfl (Nat.le_of_ble_eq_true rfl) rfl ?_
  refine x_lvs (M := (M_law nm)) (lv' := [some (.ref 0), some (.ref 32), some (.ref 277), some (.ref 359), some (.int (Int32.ofInt 7)), some (.int (Int32.ofInt 1)), some (.int (Int32.ofInt 0)), none]) (by rw [(by decide +kernel : (Int32.ofInt 1) + Int32.ofInt 6 = (Int32.ofInt 7))] <;> rfl) ?_
  refine x_goto (M := (M_law nm)) (tgt := 33) dL_law_2452 (by decide) ?_
  refine x_iload (M := (M_law nm)) dL_law_33 rfl ?_
  refine x_aload_n (M := (M_law nm)) dL_law_35 rfl ?_
  refine x_slen (M := (M_law nm)) dL_law_36 (by decide) hx ?_
  refine x_bipush (M := (M_law nm)) dL_law_37 ?_
  refine x_isub (M := (M_law nm)) dL_law_39 ?_
  refine x_icmp_gt (M := (M_law nm)) (tgt := 2455) dL_law_40 (by decide) (fun _ => ?_) (fun q => absurd q (by decide +kernel))
  refine x_iconst (M := (M_law nm)) dL_law_2455 ?_
  exact x_zret (M := (M_law nm)) dL_law_2456 rfl (by decide) rfl (Nat.le_of_ble_eq_true rfl) (Nat.le_of_ble_eq_true rfl)
theorem lop25 {l : Launch} {E : EE} (hl : l.stackTraces = false) (nm : String) {xs : Nat → Int32} (hx : E.2.2.2.2 0 = some (7, xs)) (dg : Int32) : XX l E (M_law nm) 1312 342628 8074320 (fun o _ => o = .inl (some (.int 1))) 1881 [some (.ref 0), some (.ref 32), some (.ref 277), some (.ref 359), some (.int (Int32.ofInt 1)), none, none, none] [] (HH dg) 328 2463747 := by
  obtain ⟨a0, e2⟩ : ∃ a : Int32, xs 2 = a := ⟨_, rfl⟩
  obtain ⟨a1, e3⟩ : ∃ a : Int32, xs 3 = a := ⟨_, rfl⟩
  obtain ⟨a2, e4⟩ : ∃ a : Int32, xs 4 = a := ⟨_, rfl⟩
  obtain ⟨a3, e5⟩ : ∃ a : Int32, xs 5 = a := ⟨_, rfl⟩
  obtain ⟨a4, e6⟩ : ∃ a : Int32, xs 6 = a := ⟨_, rfl⟩
  by_cases c0 : a0.toInt < 0
  · exact lc25_0 hl nm hx e2 c0 (o_32 dg) (o_277b dg)
  · exact lc25_1 hl nm hx e2 c0 (o_32 dg) (o_277b dg)
set_option maxRecDepth 10000 in
theorem q80 {l : Launch} {E : EE} (hl : l.stackTraces = false) {h : HP} {dg : Int32} (o64 : ob h 32 = some (.inr (14, [.ref 33, .ref 162, .ref 166, .int (0 : Int32), .int (0 : Int32), .int (0 : Int32), .ref 167, .ref 170, .ref 173, .ref 177, .ref 193, .ref 208, .ref 222, .ref 238, .ref 252, .ref 274, .ref 275, .ref 276, .int (0 : Int32)]))) (o65 : ob h 173 = some (.inr (13, [.int (dg &&& Int32.ofInt 3), .ref 174, .ref 175, .int (0 : Int32), .ref 176, .int (0 : Int32)]))) (o70 : ob h 176 = some (.inl (2, 80000, .inl (fun _ => 0)))) (o72 : ob h 166 = some (.inl (2, 65536, .inl (fun _ => 0)))) : en_C l E M_X11_again 1 0 0 [.ref 32] h (pF (some (.int (Int32.ofInt 0))) [32, 166] h (fun _ => True)) := by
  refine en_mk m_X11_again rfl hl (Nat.le_of_ble_eq_true rfl) ?_
  refine x_aload_n (M := M_X11_again) dX11_again_0 rfl ?_
  refine x_aload_n (M := M_X11_again) dX11_again_1 rfl ?_
  refine x_getf (M := M_X11_again) (ci := 14) (C := RX11) (T := TX11) (N := 19) (ty := tyX11) cl14 dX11_again_2 o64 8 (by decide) t_571 (v := .ref 173) rfl ?_
  refine x_getf (M := M_X11_again) (ci := 13) (C := RX10) (T := TX10) (N := 6) (ty := tyX10) cl13 dX11_again_5 o65 5 (by decide) t_208 (v := .int (0 : Int32)) rfl ?_
  refine x_ldc (M := M_X11_again) dX11_again_8 t_98 ?_
  refine x_mmin (M := M_X11_again) dX11_again_10 t_625 t_626 t_20 t_627 (Nat.le_of_ble_eq_true rfl) (Nat.le_of_ble_eq_true rfl) (Nat.le_of_ble_eq_true rfl) (Nat.le_of_ble_eq_true rfl) ?_
  refine x_top (M := M_X11_again) (y := (Int32.ofInt 0)) (by decide +kernel) ?_
  refine y_put (M := M_X11_again) (ci := 14) (C := RX11) (T := TX11) (N := 19) (ty := tyX11) cl14 dX11_again_13 o64 3 (by decide) t_566 (Or.inl rfl) (Nat.le_of_ble_eq_true rfl) rfl (fun h66 (w67 : ob h66 32 = some (.inr (14, [.ref 33, .ref 162, .ref 166, .int (Int32.ofInt 0), .int (0 : Int32), .int (0 : Int32), .ref 167, .ref 170, .ref 173, .ref 177, .ref 193, .ref 208, .ref 222, .ref 238, .ref 252, .ref 274, .ref 275, .ref 276, .int (0 : Int32)]))) f68 => ?_)
  refine x_aload_n (M := M_X11_again) dX11_again_16 rfl ?_
  refine x_getf (M := M_X11_again) (ci := 14) (C := RX11) (T := TX11) (N := 19) (ty := tyX11) cl14 dX11_again_17 w67 8 (by decide) t_571 (v := .ref 173) rfl ?_
  have o69 := (f68 173 _ (by decide) o65)
  refine x_getf (M := M_X11_again) (ci := 13) (C := RX10) (T := TX10) (N := 6) (ty := tyX10) cl13 dX11_again_20 o69 4 (by decide) t_206 (v := .ref 176) rfl ?_
  refine x_iconst (M := M_X11_again) dX11_again_23 ?_
  refine x_aload_n (M := M_X11_again) dX11_again_24 rfl ?_
  refine x_getf (M := M_X11_again) (ci := 14) (C := RX11) (T := TX11) (N := 19) (ty := tyX11) cl14 dX11_again_25 w67 2 (by decide) t_565 (v := .ref 166) rfl ?_
  refine x_iconst (M := M_X11_again) dX11_again_28 ?_
  refine x_aload_n (M := M_X11_again) dX11_again_29 rfl ?_
  refine x_getf (M := M_X11_again) (ci := 14) (C := RX11) (T := TX11) (N := 19) (ty := tyX11) cl14 dX11_again_30 w67 3 (by decide) t_566 (v := .int (Int32.ofInt 0)) rfl ?_
  have o71 := (f68 176 _ (by decide) o70)
  have o73 := (f68 166 _ (by decide) o72)
  refine y_acopy0 (M := M_X11_again) rfl dX11_again_33 t_628 t_630 t_629 t_21 o71 o73 (by decide +kernel) (by decide +kernel) (by decide +kernel) (Nat.le_of_ble_eq_true rfl) (Nat.le_of_ble_eq_true rfl) (fun h74 w75 f76 => ?_)
  obtain ⟨g77, w78⟩ := w75
  refine x_aload_n (M := M_X11_again) dX11_again_36 rfl ?_
  have o79 := (f76 32 _ (by decide) w67)
  refine x_getf (M := M_X11_again) (ci := 14) (C := RX11) (T := TX11) (N := 19) (ty := tyX11) cl14 dX11_again_37 o79 3 (by decide) t_566 (v := .int (Int32.ofInt 0)) rfl ?_
  exact x_iret (M := M_X11_again) dX11_again_40 rfl ⟨rfl, (fr_tr f76 (by decide) (fr_tr f68 (by decide) fr_rf)), trivial⟩ (Nat.le_of_ble_eq_true rfl) (Nat.le_of_ble_eq_true rfl)
set_option maxRecDepth 10000 in
theorem q95 {l : Launch} {E : EE} (hl : l.stackTraces = false) {h : HP} {dg : Int32} (o88 : ob h 277 = some (.inr (15, (RB dg)))) : en_C l E M_X12_again 0 0 0 [.ref 277] h (pF (some (.int (Int32.ofInt 0))) [277] h (fun h' => ob h' 277 = some (.inr (15, (((RB dg).set 0 (.int (Int32.ofInt 0))).set 4 (.int (Int32.ofInt 0))))) ∧ True)) := by
  refine en_mk m_X12_again rfl hl (Nat.le_of_ble_eq_true rfl) ?_
  refine x_aload_n (M := M_X12_again) dX12_again_0 rfl ?_
  refine x_iconst (M := M_X12_again) dX12_again_1 ?_
  refine y_put (M := M_X12_again) (ci := 15) (C := RX12) (T := TX12) (N := 135) (ty := tyX12) cl15 dX12_again_2 o88 0 (by decide) t_2391 (Or.inl rfl) (Nat.le_of_ble_eq_true rfl) rfl (fun h89 w90 f91 => ?_)
  refine x_aload_n (M := M_X12_again) dX12_again_5 rfl ?_
  refine x_aload_n (M := M_X12_again) dX12_again_6 rfl ?_
  refine x_getf (M := M_X12_again) (ci := 15) (C := RX12) (T := TX12) (N := 135) (ty := tyX12) cl15 dX12_again_7 w90 6 (by decide) t_2397 (v := .int (0 : Int32)) rfl ?_
  refine x_ldc (M := M_X12_again) dX12_again_10 t_2385 ?_
  refine x_icmp_ge (M := M_X12_again) (tgt := 22) dX12_again_12 (by decide) (fun q => absurd q (by decide +kernel)) (fun _ => ?_)
  refine x_aload_n (M := M_X12_again) dX12_again_15 rfl ?_
  refine x_getf (M := M_X12_again) (ci := 15) (C := RX12) (T := TX12) (N := 135) (ty := tyX12) cl15 dX12_again_16 w90 6 (by decide) t_2397 (v := .int (0 : Int32)) rfl ?_
  refine x_goto (M := M_X12_again) (tgt := 24) dX12_again_19 (by decide) ?_
  refine x_top (M := M_X12_again) (y := (Int32.ofInt 0)) (by decide +kernel) ?_
  refine y_put (M := M_X12_again) (ci := 15) (C := RX12) (T := TX12) (N := 135) (ty := tyX12) cl15 dX12_again_24 w90 4 (by decide) t_2395 (Or.inl rfl) (Nat.le_of_ble_eq_true rfl) rfl (fun h92 w93 f94 => ?_)
  refine x_iconst (M := M_X12_again) dX12_again_27 ?_
  refine x_istore_n (M := M_X12_again) dX12_again_28 (Nat.le_of_ble_eq_true rfl) rfl ?_
  refine x_iload_n (M := M_X12_again) dX12_again_29 rfl ?_
  refine x_aload_n (M := M_X12_again) dX12_again_30 rfl ?_
  refine x_getf (M := M_X12_again) (ci := 15) (C := RX12) (T := TX12) (N := 135) (ty := tyX12) cl15 dX12_again_31 w93 4 (by decide) t_2395 (v := .int (Int32.ofInt 0)) rfl ?_
  refine x_icmp_ge (M := M_X12_again) (tgt := 55) dX12_again_34 (by decide) (fun _ => ?_) (fun q => absurd q (by decide +kernel))
  refine x_aload_n (M := M_X12_again) dX12_again_55 rfl ?_
  refine x_getf (M := M_X12_again) (ci := 15) (C := RX12) (T := TX12) (N := 135) (ty := tyX12) cl15 dX12_again_56 w93 4 (by decide) t_2395 (v := .int (Int32.ofInt 0)) rfl ?_
  exact x_iret (M := M_X12_again) dX12_again_59 rfl ⟨rfl, (fr_tr f94 (by decide) (fr_tr f91 (by decide) fr_rf)), ⟨w93, trivial⟩⟩ (Nat.le_of_ble_eq_true rfl) (Nat.le_of_ble_eq_true rfl)
set_option maxRecDepth 10000 in
theorem lc2_0 {l : Launch} {E : EE} (hl : l.stackTraces = false) (nm : String) {xs : Nat → Int32} (hx : E.2.2.2.2 0 = some (7, xs)) {h : HP} {dg : Int32} (o81 : ob h 32 = some (.inr (14, [.ref 33, .ref 162, .ref 166, .int (0 : Int32), .int (0 : Int32), .int (0 : Int32), .ref 167, .ref 170, .ref 173, .ref 177, .ref 193, .ref 208, .ref 222, .ref 238, .ref 252, .ref 274, .ref 275, .ref 276, .int (0 : Int32)]))) (o82 : ob h 173 = some (.inr (13, [.int (dg &&& Int32.ofInt 3), .ref 174, .ref 175, .int (0 : Int32), .ref 176, .int (0 : Int32)]))) (o83 : ob h 176 = some (.inl (2, 80000, .inl (fun _ => 0)))) (o84 : ob h 166 = some (.inl (2, 65536, .inl (fun _ => 0)))) (o96 : ob h 277 = some (.inr (15, (RB dg)))) : XX l E (M_law nm) 1312 342628 8074320 (fun o _ => o = .inl (some (.int 1))) 352 [some (.ref 0), some (.ref 32), some (.ref 277), some (.ref 359), some (.int (Int32.ofInt 1)), none, none, none] [] h 328 2463747 := by
  refine x_aload_n (M := (M_law nm)) dL_law_352 rfl ?_
  refine y_callVR (M := (M_law nm)) (M' := M_X11_again) rfl rfl dL_law_353 m_X11_again t_621 t_622 t_623 (q80 hl o81 o82 o83 o84) rfl rfl o81 rfl (Nat.le_of_ble_eq_true rfl) (Nat.le_of_ble_eq_true rfl) (Nat.le_of_ble_eq_true rfl) (Nat.le_of_ble_eq_true rfl) (fun h85 f86 w87 => ?_)
  refine x_aload_n (M := (M_law nm)) dL_law_356 rfl ?_
  have o97 := (f86 277 _ (by decide) o96)
  refine y_callVR (M := (M_law nm)) (M' := M_X12_again) rfl rfl dL_law_357 m_X12_again t_2821 t_2822 t_2823 (q95 hl o97) rfl rfl o97 rfl (Nat.le_of_ble_eq_true rfl) (Nat.le_of_ble_eq_true rfl) (Nat.le_of_ble_eq_true rfl) (Nat.le_of_ble_eq_true rfl) (fun h98 f99 w100 => ?_)
  obtain ⟨o101, -⟩ := w100
  refine x_icmp_eq (M := (M_law nm)) (tgt := 2449) dL_law_360 (by decide) (fun _ => ?_) (fun q => absurd q (by decide +kernel))
  refine x_iinc (M := (M_law nm)) dL_law_2449 rfl (Nat.le_of_ble_eq_true rfl) rfl ?_
  refine x_lvs (M := (M_law nm)) (lv' := [some (.ref 0), some (.ref 32), some (.ref 277), some (.ref 359), some (.int (Int32.ofInt 7)), none, none, none]) (by rw [(by decide +kernel : (Int32.ofInt 1) + Int32.ofInt 6 = (Int32.ofInt 7))] <;> rfl) ?_
  refine x_goto (M := (M_law nm)) (tgt := 33) dL_law_2452 (by decide) ?_
  refine x_iload (M := (M_law nm)) dL_law_33 rfl ?_
  refine x_aload_n (M := (M_law nm)) dL_law_35 rfl ?_
  refine x_slen (M := (M_law nm)) dL_law_36 (by decide) hx ?_
  refine x_bipush (M := (M_law nm)) dL_law_37 ?_
  refine x_isub (M := (M_law nm)) dL_law_39 ?_
  refine x_icmp_gt (M := (M_law nm)) (tgt := 2455) dL_law_40 (by decide) (fun _ => ?_) (fun q => absurd q (by decide +kernel))
  refine x_iconst (M := (M_law nm)) dL_law_2455 ?_
  exact x_zret (M := (M_law nm)) dL_law_2456 rfl (by decide) rfl (Nat.le_of_ble_eq_true rfl) (Nat.le_of_ble_eq_true rfl)
theorem lop2 {l : Launch} {E : EE} (hl : l.stackTraces = false) (nm : String) {xs : Nat → Int32} (hx : E.2.2.2.2 0 = some (7, xs)) (dg : Int32) : XX l E (M_law nm) 1312 342628 8074320 (fun o _ => o = .inl (some (.int 1))) 352 [some (.ref 0), some (.ref 32), some (.ref 277), some (.ref 359), some (.int (Int32.ofInt 1)), none, none, none] [] (HH dg) 328 2463747 := by
  obtain ⟨a0, e2⟩ : ∃ a : Int32, xs 2 = a := ⟨_, rfl⟩
  obtain ⟨a1, e3⟩ : ∃ a : Int32, xs 3 = a := ⟨_, rfl⟩
  obtain ⟨a2, e4⟩ : ∃ a : Int32, xs 4 = a := ⟨_, rfl⟩
  obtain ⟨a3, e5⟩ : ∃ a : Int32, xs 5 = a := ⟨_, rfl⟩
  obtain ⟨a4, e6⟩ : ∃ a : Int32, xs 6 = a := ⟨_, rfl⟩
  exact lc2_0 hl nm hx  (o_32 dg) (o_173 dg) (o_176 dg) (o_166 dg) (o_277b dg)
set_option maxRecDepth 10000 in
theorem q103 {l : Launch} {E : EE} (hl : l.stackTraces = false) {h : HP} {a0 : Int32} (c0 : a0.toInt < 0) : en_C l E M_X11_fault 6 1 6 [.ref 32, .int a0] h (pT "java/lang/IndexOutOfBoundsException" [] h (fun _ => True)) := by
  refine en_mk m_X11_fault rfl hl (Nat.le_of_ble_eq_true rfl) ?_
  refine x_iload_n (M := M_X11_fault) dX11_fault_0 rfl ?_
  refine x_if_lt (M := M_X11_fault) (tgt := 9) dX11_fault_1 (by decide) (fun _ => ?_) (fun q => absurd ((bi_lt rfl (by decide +kernel)).mpr (by omega : (a0.toInt < 0 : Prop))) q)
  exact x_throw (M := M_X11_fault) (names := en_nm) rfl dX11_fault_9 dX11_fault_12 dX11_fault_13 dX11_fault_16 (by decide +kernel) en_nm_ok (Or.inl t_748) (Or.inl t_22) (at_X11_IndexOutOfBoundsException_139) (Nat.le_of_ble_eq_true rfl) (Nat.le_of_ble_eq_true rfl) (Nat.le_of_ble_eq_true rfl) (Nat.le_of_ble_eq_true rfl) (fun n9 => ⟨rfl, (fr_tr (fr_app (List.replicate n9 none)) (fun _ h => nomatch h) fr_rf), trivial⟩)
set_option maxRecDepth 10000 in
theorem q108 {l : Launch} {E : EE} (hl : l.stackTraces = false) {h : HP} {a0 : Int32} (c0 : a0.toInt < 0) (o104 : ob h 32 = some (.inr (14, [.ref 33, .ref 162, .ref 166, .int (0 : Int32), .int (0 : Int32), .int (0 : Int32), .ref 167, .ref 170, .ref 173, .ref 177, .ref 193, .ref 208, .ref 222, .ref 238, .ref 252, .ref 274, .ref 275, .ref 276, .int (0 : Int32)]))) : en_C l E M_L_fault 7 1 6 [.ref 32, .int a0, .ref 359] h (pF (some (.int (Int32.ofInt 1))) [] h (fun _ => True)) := by
  refine en_mkW m_L_fault rfl hl (Nat.le_of_ble_eq_true rfl) ?_
  refine x_aload_n (M := M_L_fault) dL_fault_0 rfl ?_
  refine x_iconst (M := M_L_fault) dL_fault_1 ?_
  refine x_aload_n (M := M_L_fault) dL_fault_2 rfl ?_
  refine x_iload_n (M := M_L_fault) dL_fault_3 rfl ?_
  refine y_callVHX (M := M_L_fault) (M' := M_X11_fault) (i9 := 3) (nx := 13) rfl dL_fault_4 m_X11_fault t_1036 t_1037 t_1038 o104 rfl (q103 hl c0) rfl rfl (Nat.le_of_ble_eq_true rfl) (Nat.le_of_ble_eq_true rfl) (Nat.le_of_ble_eq_true rfl) (Nat.le_of_ble_eq_true rfl) (en_hdn (k0 := 3) [] [] rfl (fun _ h => nomatch h) (by decide +kernel) (by decide) t_739 n_750 dL_fault_12) (by decide) rfl (fun h105 f106 w107 => ?_)
  refine x_iconst (M := M_L_fault) dL_fault_13 ?_
  exact x_iret (M := M_L_fault) dL_fault_14 rfl ⟨rfl, (fr_tr f106 (fun _ h => nomatch h) fr_rf), trivial⟩ (Nat.le_of_ble_eq_true rfl) (Nat.le_of_ble_eq_true rfl)
set_option maxRecDepth 10000 in
theorem q117 {l : Launch} {E : EE} (hl : l.stackTraces = false) {h : HP} {a0 : Int32} (c0 : a0.toInt < 0) : en_C l E M_X12_in 0 0 0 [.long (a0.toInt64), .long (Int64.ofInt 0), .long (Int64.ofInt 1)] h (pR (some (.int (Int32.ofInt 0))) h) := by
  refine en_mk m_X12_in rfl hl (Nat.le_of_ble_eq_true rfl) ?_
  refine x_lload_n (M := M_X12_in) dX12_in_0 rfl ?_
  refine x_lload_n (M := M_X12_in) dX12_in_1 rfl ?_
  refine x_lcmp (M := M_X12_in) dX12_in_2 ?_
  refine x_if_lt (M := M_X12_in) (tgt := 17) dX12_in_3 (by decide) (fun _ => ?_) (fun q => absurd ((bc_lt (i_i2l rfl) (by decide +kernel)).mpr (by omega : (a0.toInt < 0 : Prop))) q)
  refine x_iconst (M := M_X12_in) dX12_in_17 ?_
  exact x_zret (M := M_X12_in) dX12_in_18 rfl (by decide) ⟨rfl, rfl⟩ (Nat.le_of_ble_eq_true rfl) (Nat.le_of_ble_eq_true rfl)
set_option maxRecDepth 10000 in
theorem q122 {l : Launch} {E : EE} (hl : l.stackTraces = false) {h : HP} {a0 : Int32} {dg : Int32} (c0 : a0.toInt < 0) (o113 : ob h 277 = some (.inr (15, (RB dg)))) : en_C l E M_X12_fault 1 0 0 [.ref 277, .int a0] h (pF (some (.int (Int32.ofInt 0))) [277] h (fun h' => ob h' 277 = some (.inr (15, ((RB dg).set 0 (.int (Int32.ofInt 1))))) ∧ True)) := by
  refine en_mk m_X12_fault rfl hl (Nat.le_of_ble_eq_true rfl) ?_
  refine x_aload_n (M := M_X12_fault) dX12_fault_0 rfl ?_
  refine x_iconst (M := M_X12_fault) dX12_fault_1 ?_
  refine y_put (M := M_X12_fault) (ci := 15) (C := RX12) (T := TX12) (N := 135) (ty := tyX12) cl15 dX12_fault_2 o113 0 (by decide) t_2391 (Or.inl rfl) (Nat.le_of_ble_eq_true rfl) rfl (fun h114 w115 f116 => ?_)
  refine x_aload_n (M := M_X12_fault) dX12_fault_5 rfl ?_
  refine x_iload_n (M := M_X12_fault) dX12_fault_6 rfl ?_
  refine x_i2l (M := M_X12_fault) dX12_fault_7 ?_
  refine x_lconst (M := M_X12_fault) dX12_fault_8 ?_
  refine x_lconst (M := M_X12_fault) dX12_fault_9 ?_
  refine x_norm (M := M_X12_fault) (st' := [.long (Int64.ofInt 1), .long (Int64.ofInt 0), .long (a0.toInt64), .ref 277]) rfl (by rw [(by decide +kernel : (Int64.ofNat ((1 : Fin 2) : Nat)) = (Int64.ofInt 1)), (by decide +kernel : (Int64.ofNat ((0 : Fin 2) : Nat)) = (Int64.ofInt 0))] <;> rfl) rfl rfl rfl ?_
  refine x_callSR (M := M_X12_fault) (M' := M_X12_in) rfl rfl dX12_fault_10 m_X12_in t_2818 t_2819 (q117 hl c0) rfl rfl (Nat.le_of_ble_eq_true rfl) (Nat.le_of_ble_eq_true rfl) (Nat.le_of_ble_eq_true rfl) (Nat.le_of_ble_eq_true rfl) ?_
  refine x_if_ne (M := M_X12_fault) (tgt := 20) dX12_fault_13 (by decide) (fun q => absurd q (by decide +kernel)) (fun _ => ?_)
  refine x_iconst (M := M_X12_fault) dX12_fault_16 ?_
  refine x_goto (M := M_X12_fault) (tgt := 21) dX12_fault_17 (by decide) ?_
  refine x_iconst (M := M_X12_fault) dX12_fault_21 ?_
  refine y_callVR (M := M_X12_fault) (M' := M_X12_fails) rfl rfl dX12_fault_22 m_X12_fails t_2805 t_2807 s_157 (q22 hl w115) rfl rfl w115 rfl (Nat.le_of_ble_eq_true rfl) (Nat.le_of_ble_eq_true rfl) (Nat.le_of_ble_eq_true rfl) (Nat.le_of_ble_eq_true rfl) (fun h118 f119 w120 => ?_)
  obtain ⟨o121, -⟩ := w120
  refine x_if_eq (M := M_X12_fault) (tgt := 30) dX12_fault_25 (by decide) (fun q => absurd q (by decide +kernel)) (fun _ => ?_)
  refine x_iconst (M := M_X12_fault) dX12_fault_28 ?_
  exact x_iret (M := M_X12_fault) dX12_fault_29 rfl ⟨rfl, (fr_tr f119 (by decide) (fr_tr f116 (by decide) fr_rf)), ⟨o121, trivial⟩⟩ (Nat.le_of_ble_eq_true rfl) (Nat.le_of_ble_eq_true rfl)
set_option maxRecDepth 10000 in
theorem lc5_0 {l : Launch} {E : EE} (hl : l.stackTraces = false) (nm : String) {xs : Nat → Int32} (hx : E.2.2.2.2 0 = some (7, xs)) {h : HP} {a0 : Int32} {dg : Int32} (e2 : xs 2 = a0) (c0 : a0.toInt < 0) (o109 : ob h 32 = some (.inr (14, [.ref 33, .ref 162, .ref 166, .int (0 : Int32), .int (0 : Int32), .int (0 : Int32), .ref 167, .ref 170, .ref 173, .ref 177, .ref 193, .ref 208, .ref 222, .ref 238, .ref 252, .ref 274, .ref 275, .ref 276, .int (0 : Int32)]))) (o123 : ob h 277 = some (.inr (15, (RB dg)))) : XX l E (M_law nm) 1312 342628 8074320 (fun o _ => o = .inl (some (.int 1))) 477 [some (.ref 0), some (.ref 32), some (.ref 277), some (.ref 359), some (.int (Int32.ofInt 1)), none, none, none] [] h 328 2463747 := by
  refine x_aload_n (M := (M_law nm)) dL_law_477 rfl ?_
  refine x_aload_n (M := (M_law nm)) dL_law_478 rfl ?_
  refine x_iload (M := (M_law nm)) dL_law_479 rfl ?_
  refine x_iconst (M := (M_law nm)) dL_law_481 ?_
  refine x_iadd (M := (M_law nm)) dL_law_482 ?_
  refine x_sald (M := (M_law nm)) dL_law_483 (by decide) hx (vp_inD (by decide +kernel)) ?_
  refine x_top (M := (M_law nm)) (y := a0) ((congrArg xs (by decide +kernel : ((Int32.ofInt 1) + (Int32.ofInt 1)).toNatClampNeg = 2)).trans e2) ?_
  refine x_aload_n (M := (M_law nm)) dL_law_484 rfl ?_
  refine y_callSW (M := (M_law nm)) (M' := M_L_fault) rfl rfl dL_law_485 m_L_fault t_1033 t_1034 (q108 hl c0 o109) rfl rfl (Nat.le_of_ble_eq_true rfl) (Nat.le_of_ble_eq_true rfl) (Nat.le_of_ble_eq_true rfl) (Nat.le_of_ble_eq_true rfl) (fun h110 f111 w112 => ?_)
  refine x_istore (M := (M_law nm)) dL_law_488 (Nat.le_of_ble_eq_true rfl) rfl ?_
  refine x_aload_n (M := (M_law nm)) dL_law_490 rfl ?_
  refine x_aload_n (M := (M_law nm)) dL_law_491 rfl ?_
  refine x_iload (M := (M_law nm)) dL_law_492 rfl ?_
  refine x_iconst (M := (M_law nm)) dL_law_494 ?_
  refine x_iadd (M := (M_law nm)) dL_law_495 ?_
  refine x_sald (M := (M_law nm)) dL_law_496 (by decide) hx (vp_inD (by decide +kernel)) ?_
  refine x_top (M := (M_law nm)) (y := a0) ((congrArg xs (by decide +kernel : ((Int32.ofInt 1) + (Int32.ofInt 1)).toNatClampNeg = 2)).trans e2) ?_
  have o124 := (f111 277 _ (by decide) o123)
  refine y_callVR (M := (M_law nm)) (M' := M_X12_fault) rfl rfl dL_law_497 m_X12_fault t_2825 t_2826 t_2827 (q122 hl c0 o124) rfl rfl o124 rfl (Nat.le_of_ble_eq_true rfl) (Nat.le_of_ble_eq_true rfl) (Nat.le_of_ble_eq_true rfl) (Nat.le_of_ble_eq_true rfl) (fun h125 f126 w127 => ?_)
  obtain ⟨o128, -⟩ := w127
  refine x_istore (M := (M_law nm)) dL_law_500 (Nat.le_of_ble_eq_true rfl) rfl ?_
  refine x_aload_n (M := (M_law nm)) dL_law_502 rfl ?_
  refine x_callVR (M := (M_law nm)) (M' := M_X12_thrown) rfl rfl dL_law_503 m_X12_thrown t_2797 t_2798 t_2799 (q35 hl o128) rfl rfl o128 rfl (Nat.le_of_ble_eq_true rfl) (Nat.le_of_ble_eq_true rfl) (Nat.le_of_ble_eq_true rfl) (Nat.le_of_ble_eq_true rfl) ?_
  refine x_iload (M := (M_law nm)) dL_law_506 rfl ?_
  refine x_icmp_eq (M := (M_law nm)) (tgt := 513) dL_law_508 (by decide) (fun _ => ?_) (fun q => absurd q (by decide +kernel))
  refine x_iload (M := (M_law nm)) dL_law_513 rfl ?_
  refine x_if_ne (M := (M_law nm)) (tgt := 530) dL_law_515 (by decide) (fun _ => ?_) (fun q => absurd q (by decide +kernel))
  refine x_goto (M := (M_law nm)) (tgt := 2449) dL_law_530 (by decide) ?_
  refine x_iinc (M := (M_law nm)) dL_law_2449 rfl (Nat.le_of_ble_eq_true rfl) rfl ?_
  refine x_lvs (M := (M_law nm)) (lv' := [some (.ref 0), some (.ref 32), some (.ref 277), some (.ref 359), some (.int (Int32.ofInt 7)), some (.int (Int32.ofInt 1)), some (.int (Int32.ofInt 0)), none]) (by rw [(by decide +kernel : (Int32.ofInt 1) + Int32.ofInt 6 = (Int32.ofInt 7))] <;> rfl) ?_
  refine x_goto (M := (M_law nm)) (tgt := 33) dL_law_2452 (by decide) ?_
  refine x_iload (M := (M_law nm)) dL_law_33 rfl ?_
  refine x_aload_n (M := (M_law nm)) dL_law_35 rfl ?_
  refine x_slen (M := (M_law nm)) dL_law_36 (by decide) hx ?_
  refine x_bipush (M := (M_law nm)) dL_law_37 ?_
  refine x_isub (M := (M_law nm)) dL_law_39 ?_
  refine x_icmp_gt (M := (M_law nm)) (tgt := 2455) dL_law_40 (by decide) (fun _ => ?_) (fun q => absurd q (by decide +kernel))
  refine x_iconst (M := (M_law nm)) dL_law_2455 ?_
  exact x_zret (M := (M_law nm)) dL_law_2456 rfl (by decide) rfl (Nat.le_of_ble_eq_true rfl) (Nat.le_of_ble_eq_true rfl)
set_option maxRecDepth 10000 in
theorem q130 {l : Launch} {E : EE} (hl : l.stackTraces = false) {h : HP} {a0 : Int32} (c0 : ¬ (a0.toInt < 0)) (c1 : 1 < a0.toInt) : en_C l E M_X11_fault 6 1 6 [.ref 32, .int a0] h (pT "java/lang/IndexOutOfBoundsException" [] h (fun _ => True)) := by
  refine en_mk m_X11_fault rfl hl (Nat.le_of_ble_eq_true rfl) ?_
  refine x_iload_n (M := M_X11_fault) dX11_fault_0 rfl ?_
  refine x_if_lt (M := M_X11_fault) (tgt := 9) dX11_fault_1 (by decide) (fun q => absurd ((bi_lt rfl (by decide +kernel)).mp q) (by omega : ¬ (a0.toInt < 0))) (fun _ => ?_)
  refine x_iload_n (M := M_X11_fault) dX11_fault_4 rfl ?_
  refine x_iconst (M := M_X11_fault) dX11_fault_5 ?_
  refine x_icmp_le (M := M_X11_fault) (tgt := 17) dX11_fault_6 (by decide) (fun q => absurd ((bi_le rfl (by decide +kernel)).mp q) (by omega : ¬ (a0.toInt ≤ 1))) (fun _ => ?_)
  exact x_throw (M := M_X11_fault) (names := en_nm) rfl dX11_fault_9 dX11_fault_12 dX11_fault_13 dX11_fault_16 (by decide +kernel) en_nm_ok (Or.inl t_748) (Or.inl t_22) (at_X11_IndexOutOfBoundsException_139) (Nat.le_of_ble_eq_true rfl) (Nat.le_of_ble_eq_true rfl) (Nat.le_of_ble_eq_true rfl) (Nat.le_of_ble_eq_true rfl) (fun n9 => ⟨rfl, (fr_tr (fr_app (List.replicate n9 none)) (fun _ h => nomatch h) fr_rf), trivial⟩)
set_option maxRecDepth 10000 in
theorem q135 {l : Launch} {E : EE} (hl : l.stackTraces = false) {h : HP} {a0 : Int32} (c0 : ¬ (a0.toInt < 0)) (c1 : 1 < a0.toInt) (o131 : ob h 32 = some (.inr (14, [.ref 33, .ref 162, .ref 166, .int (0 : Int32), .int (0 : Int32), .int (0 : Int32), .ref 167, .ref 170, .ref 173, .ref 177, .ref 193, .ref 208, .ref 222, .ref 238, .ref 252, .ref 274, .ref 275, .ref 276, .int (0 : Int32)]))) : en_C l E M_L_fault 7 1 6 [.ref 32, .int a0, .ref 359] h (pF (some (.int (Int32.ofInt 1))) [] h (fun _ => True)) := by
  refine en_mkW m_L_fault rfl hl (Nat.le_of_ble_eq_true rfl) ?_
  refine x_aload_n (M := M_L_fault) dL_fault_0 rfl ?_
  refine x_iconst (M := M_L_fault) dL_fault_1 ?_
  refine x_aload_n (M := M_L_fault) dL_fault_2 rfl ?_
  refine x_iload_n (M := M_L_fault) dL_fault_3 rfl ?_
  refine y_callVHX (M := M_L_fault) (M' := M_X11_fault) (i9 := 3) (nx := 13) rfl dL_fault_4 m_X11_fault t_1036 t_1037 t_1038 o131 rfl (q130 hl c0 c1) rfl rfl (Nat.le_of_ble_eq_true rfl) (Nat.le_of_ble_eq_true rfl) (Nat.le_of_ble_eq_true rfl) (Nat.le_of_ble_eq_true rfl) (en_hdn (k0 := 3) [] [] rfl (fun _ h => nomatch h) (by decide +kernel) (by decide) t_739 n_750 dL_fault_12) (by decide) rfl (fun h132 f133 w134 => ?_)
  refine x_iconst (M := M_L_fault) dL_fault_13 ?_
  exact x_iret (M := M_L_fault) dL_fault_14 rfl ⟨rfl, (fr_tr f133 (fun _ h => nomatch h) fr_rf), trivial⟩ (Nat.le_of_ble_eq_true rfl) (Nat.le_of_ble_eq_true rfl)
set_option maxRecDepth 10000 in
theorem q144 {l : Launch} {E : EE} (hl : l.stackTraces = false) {h : HP} {a0 : Int32} (c0 : ¬ (a0.toInt < 0)) (c1 : 1 < a0.toInt) : en_C l E M_X12_in 0 0 0 [.long (a0.toInt64), .long (Int64.ofInt 0), .long (Int64.ofInt 1)] h (pR (some (.int (Int32.ofInt 0))) h) := by
  refine en_mk m_X12_in rfl hl (Nat.le_of_ble_eq_true rfl) ?_
  refine x_lload_n (M := M_X12_in) dX12_in_0 rfl ?_
  refine x_lload_n (M := M_X12_in) dX12_in_1 rfl ?_
  refine x_lcmp (M := M_X12_in) dX12_in_2 ?_
  refine x_if_lt (M := M_X12_in) (tgt := 17) dX12_in_3 (by decide) (fun q => absurd ((bc_lt (i_i2l rfl) (by decide +kernel)).mp q) (by omega : ¬ (a0.toInt < 0))) (fun _ => ?_)
  refine x_lload_n (M := M_X12_in) dX12_in_6 rfl ?_
  refine x_lload (M := M_X12_in) dX12_in_7 rfl ?_
  refine x_lcmp (M := M_X12_in) dX12_in_9 ?_
  refine x_if_gt (M := M_X12_in) (tgt := 17) dX12_in_10 (by decide) (fun _ => ?_) (fun q => absurd ((bc_gt (i_i2l rfl) (by decide +kernel)).mpr (by omega : (1 < a0.toInt : Prop))) q)
  refine x_iconst (M := M_X12_in) dX12_in_17 ?_
  exact x_zret (M := M_X12_in) dX12_in_18 rfl (by decide) ⟨rfl, rfl⟩ (Nat.le_of_ble_eq_true rfl) (Nat.le_of_ble_eq_true rfl)
set_option maxRecDepth 10000 in
theorem q149 {l : Launch} {E : EE} (hl : l.stackTraces = false) {h : HP} {a0 : Int32} {dg : Int32} (c0 : ¬ (a0.toInt < 0)) (c1 : 1 < a0.toInt) (o140 : ob h 277 = some (.inr (15, (RB dg)))) : en_C l E M_X12_fault 1 0 0 [.ref 277, .int a0] h (pF (some (.int (Int32.ofInt 0))) [277] h (fun h' => ob h' 277 = some (.inr (15, ((RB dg).set 0 (.int (Int32.ofInt 1))))) ∧ True)) := by
  refine en_mk m_X12_fault rfl hl (Nat.le_of_ble_eq_true rfl) ?_
  refine x_aload_n (M := M_X12_fault) dX12_fault_0 rfl ?_
  refine x_iconst (M := M_X12_fault) dX12_fault_1 ?_
  refine y_put (M := M_X12_fault) (ci := 15) (C := RX12) (T := TX12) (N := 135) (ty := tyX12) cl15 dX12_fault_2 o140 0 (by decide) t_2391 (Or.inl rfl) (Nat.le_of_ble_eq_true rfl) rfl (fun h141 w142 f143 => ?_)
  refine x_aload_n (M := M_X12_fault) dX12_fault_5 rfl ?_
  refine x_iload_n (M := M_X12_fault) dX12_fault_6 rfl ?_
  refine x_i2l (M := M_X12_fault) dX12_fault_7 ?_
  refine x_lconst (M := M_X12_fault) dX12_fault_8 ?_
  refine x_lconst (M := M_X12_fault) dX12_fault_9 ?_
  refine x_norm (M := M_X12_fault) (st' := [.long (Int64.ofInt 1), .long (Int64.ofInt 0), .long (a0.toInt64), .ref 277]) rfl (by rw [(by decide +kernel : (Int64.ofNat ((1 : Fin 2) : Nat)) = (Int64.ofInt 1)), (by decide +kernel : (Int64.ofNat ((0 : Fin 2) : Nat)) = (Int64.ofInt 0))] <;> rfl) rfl rfl rfl ?_
  refine x_callSR (M := M_X12_fault) (M' := M_X12_in) rfl rfl dX12_fault_10 m_X12_in t_2818 t_2819 (q144 hl c0 c1) rfl rfl (Nat.le_of_ble_eq_true rfl) (Nat.le_of_ble_eq_true rfl) (Nat.le_of_ble_eq_true rfl) (Nat.le_of_ble_eq_true rfl) ?_
  refine x_if_ne (M := M_X12_fault) (tgt := 20) dX12_fault_13 (by decide) (fun q => absurd q (by decide +kernel)) (fun _ => ?_)
  refine x_iconst (M := M_X12_fault) dX12_fault_16 ?_
  refine x_goto (M := M_X12_fault) (tgt := 21) dX12_fault_17 (by decide) ?_
  refine x_iconst (M := M_X12_fault) dX12_fault_21 ?_
  refine y_callVR (M := M_X12_fault) (M' := M_X12_fails) rfl rfl dX12_fault_22 m_X12_fails t_2805 t_2807 s_157 (q22 hl w142) rfl rfl w142 rfl (Nat.le_of_ble_eq_true rfl) (Nat.le_of_ble_eq_true rfl) (Nat.le_of_ble_eq_true rfl) (Nat.le_of_ble_eq_true rfl) (fun h145 f146 w147 => ?_)
  obtain ⟨o148, -⟩ := w147
  refine x_if_eq (M := M_X12_fault) (tgt := 30) dX12_fault_25 (by decide) (fun q => absurd q (by decide +kernel)) (fun _ => ?_)
  refine x_iconst (M := M_X12_fault) dX12_fault_28 ?_
  exact x_iret (M := M_X12_fault) dX12_fault_29 rfl ⟨rfl, (fr_tr f146 (by decide) (fr_tr f143 (by decide) fr_rf)), ⟨o148, trivial⟩⟩ (Nat.le_of_ble_eq_true rfl) (Nat.le_of_ble_eq_true rfl)
set_option maxRecDepth 10000 in
theorem lc5_1 {l : Launch} {E : EE} (hl : l.stackTraces = false) (nm : String) {xs : Nat → Int32} (hx : E.2.2.2.2 0 = some (7, xs)) {h : HP} {a0 : Int32} {dg : Int32} (e2 : xs 2 = a0) (c0 : ¬ (a0.toInt < 0)) (c1 : 1 < a0.toInt) (o136 : ob h 32 = some (.inr (14, [.ref 33, .ref 162, .ref 166, .int (0 : Int32), .int (0 : Int32), .int (0 : Int32), .ref 167, .ref 170, .ref 173, .ref 177, .ref 193, .ref 208, .ref 222, .ref 238, .ref 252, .ref 274, .ref 275, .ref 276, .int (0 : Int32)]))) (o150 : ob h 277 = some (.inr (15, (RB dg)))) : XX l E (M_law nm) 1312 342628 8074320 (fun o _ => o = .inl (some (.int 1))) 477 [some (.ref 0), some (.ref 32), some (.ref 277), some (.ref 359), some (.int (Int32.ofInt 1)), none, none, none] [] h 328 2463747 := by
  refine x_aload_n (M := (M_law nm)) dL_law_477 rfl ?_
  refine x_aload_n (M := (M_law nm)) dL_law_478 rfl ?_
  refine x_iload (M := (M_law nm)) dL_law_479 rfl ?_
  refine x_iconst (M := (M_law nm)) dL_law_481 ?_
  refine x_iadd (M := (M_law nm)) dL_law_482 ?_
  refine x_sald (M := (M_law nm)) dL_law_483 (by decide) hx (vp_inD (by decide +kernel)) ?_
  refine x_top (M := (M_law nm)) (y := a0) ((congrArg xs (by decide +kernel : ((Int32.ofInt 1) + (Int32.ofInt 1)).toNatClampNeg = 2)).trans e2) ?_
  refine x_aload_n (M := (M_law nm)) dL_law_484 rfl ?_
  refine y_callSW (M := (M_law nm)) (M' := M_L_fault) rfl rfl dL_law_485 m_L_fault t_1033 t_1034 (q135 hl c0 c1 o136) rfl rfl (Nat.le_of_ble_eq_true rfl) (Nat.le_of_ble_eq_true rfl) (Nat.le_of_ble_eq_true rfl) (Nat.le_of_ble_eq_true rfl) (fun h137 f138 w139 => ?_)
  refine x_istore (M := (M_law nm)) dL_law_488 (Nat.le_of_ble_eq_true rfl) rfl ?_
  refine x_aload_n (M := (M_law nm)) dL_law_490 rfl ?_
  refine x_aload_n (M := (M_law nm)) dL_law_491 rfl ?_
  refine x_iload (M := (M_law nm)) dL_law_492 rfl ?_
  refine x_iconst (M := (M_law nm)) dL_law_494 ?_
  refine x_iadd (M := (M_law nm)) dL_law_495 ?_
  refine x_sald (M := (M_law nm)) dL_law_496 (by decide) hx (vp_inD (by decide +kernel)) ?_
  refine x_top (M := (M_law nm)) (y := a0) ((congrArg xs (by decide +kernel : ((Int32.ofInt 1) + (Int32.ofInt 1)).toNatClampNeg = 2)).trans e2) ?_
  have o151 := (f138 277 _ (by decide) o150)
  refine y_callVR (M := (M_law nm)) (M' := M_X12_fault) rfl rfl dL_law_497 m_X12_fault t_2825 t_2826 t_2827 (q149 hl c0 c1 o151) rfl rfl o151 rfl (Nat.le_of_ble_eq_true rfl) (Nat.le_of_ble_eq_true rfl) (Nat.le_of_ble_eq_true rfl) (Nat.le_of_ble_eq_true rfl) (fun h152 f153 w154 => ?_)
  obtain ⟨o155, -⟩ := w154
  refine x_istore (M := (M_law nm)) dL_law_500 (Nat.le_of_ble_eq_true rfl) rfl ?_
  refine x_aload_n (M := (M_law nm)) dL_law_502 rfl ?_
  refine x_callVR (M := (M_law nm)) (M' := M_X12_thrown) rfl rfl dL_law_503 m_X12_thrown t_2797 t_2798 t_2799 (q35 hl o155) rfl rfl o155 rfl (Nat.le_of_ble_eq_true rfl) (Nat.le_of_ble_eq_true rfl) (Nat.le_of_ble_eq_true rfl) (Nat.le_of_ble_eq_true rfl) ?_
  refine x_iload (M := (M_law nm)) dL_law_506 rfl ?_
  refine x_icmp_eq (M := (M_law nm)) (tgt := 513) dL_law_508 (by decide) (fun _ => ?_) (fun q => absurd q (by decide +kernel))
  refine x_iload (M := (M_law nm)) dL_law_513 rfl ?_
  refine x_if_ne (M := (M_law nm)) (tgt := 530) dL_law_515 (by decide) (fun _ => ?_) (fun q => absurd q (by decide +kernel))
  refine x_goto (M := (M_law nm)) (tgt := 2449) dL_law_530 (by decide) ?_
  refine x_iinc (M := (M_law nm)) dL_law_2449 rfl (Nat.le_of_ble_eq_true rfl) rfl ?_
  refine x_lvs (M := (M_law nm)) (lv' := [some (.ref 0), some (.ref 32), some (.ref 277), some (.ref 359), some (.int (Int32.ofInt 7)), some (.int (Int32.ofInt 1)), some (.int (Int32.ofInt 0)), none]) (by rw [(by decide +kernel : (Int32.ofInt 1) + Int32.ofInt 6 = (Int32.ofInt 7))] <;> rfl) ?_
  refine x_goto (M := (M_law nm)) (tgt := 33) dL_law_2452 (by decide) ?_
  refine x_iload (M := (M_law nm)) dL_law_33 rfl ?_
  refine x_aload_n (M := (M_law nm)) dL_law_35 rfl ?_
  refine x_slen (M := (M_law nm)) dL_law_36 (by decide) hx ?_
  refine x_bipush (M := (M_law nm)) dL_law_37 ?_
  refine x_isub (M := (M_law nm)) dL_law_39 ?_
  refine x_icmp_gt (M := (M_law nm)) (tgt := 2455) dL_law_40 (by decide) (fun _ => ?_) (fun q => absurd q (by decide +kernel))
  refine x_iconst (M := (M_law nm)) dL_law_2455 ?_
  exact x_zret (M := (M_law nm)) dL_law_2456 rfl (by decide) rfl (Nat.le_of_ble_eq_true rfl) (Nat.le_of_ble_eq_true rfl)
set_option maxRecDepth 10000 in
theorem q157 {l : Launch} {E : EE} (hl : l.stackTraces = false) {h : HP} {a0 : Int32} (c0 : ¬ (a0.toInt < 0)) (c1 : ¬ (1 < a0.toInt)) (c2 : a0.toInt = 0) (o156 : ob h 32 = some (.inr (14, [.ref 33, .ref 162, .ref 166, .int (0 : Int32), .int (0 : Int32), .int (0 : Int32), .ref 167, .ref 170, .ref 173, .ref 177, .ref 193, .ref 208, .ref 222, .ref 238, .ref 252, .ref 274, .ref 275, .ref 276, .int (0 : Int32)]))) : en_C l E M_X11_fault 0 0 0 [.ref 32, .int a0] h (pR (some (.int (Int32.ofInt 0))) h) := by
  refine en_mk m_X11_fault rfl hl (Nat.le_of_ble_eq_true rfl) ?_
  refine x_iload_n (M := M_X11_fault) dX11_fault_0 rfl ?_
  refine x_if_lt (M := M_X11_fault) (tgt := 9) dX11_fault_1 (by decide) (fun q => absurd ((bi_lt rfl (by decide +kernel)).mp q) (by omega : ¬ (a0.toInt < 0))) (fun _ => ?_)
  refine x_iload_n (M := M_X11_fault) dX11_fault_4 rfl ?_
  refine x_iconst (M := M_X11_fault) dX11_fault_5 ?_
  refine x_icmp_le (M := M_X11_fault) (tgt := 17) dX11_fault_6 (by decide) (fun _ => ?_) (fun q => absurd ((bi_le rfl (by decide +kernel)).mpr (by omega : (a0.toInt ≤ 1 : Prop))) q)
  refine x_iload_n (M := M_X11_fault) dX11_fault_17 rfl ?_
  refine x_if_ne (M := M_X11_fault) (tgt := 28) dX11_fault_18 (by decide) (fun q => absurd ((bi_eq rfl (by decide +kernel)).mpr (by omega : (a0.toInt = 0 : Prop))) q) (fun _ => ?_)
  refine x_aload_n (M := M_X11_fault) dX11_fault_21 rfl ?_
  refine x_getf (M := M_X11_fault) (ci := 14) (C := RX11) (T := TX11) (N := 19) (ty := tyX11) cl14 dX11_fault_22 o156 4 (by decide) t_567 (v := .int (0 : Int32)) rfl ?_
  refine x_goto (M := M_X11_fault) (tgt := 32) dX11_fault_25 (by decide) ?_
  refine x_top (M := M_X11_fault) (y := (Int32.ofInt 0)) (by decide +kernel) ?_
  exact x_iret (M := M_X11_fault) dX11_fault_32 rfl ⟨rfl, rfl⟩ (Nat.le_of_ble_eq_true rfl) (Nat.le_of_ble_eq_true rfl)
set_option maxRecDepth 10000 in
theorem q168 {l : Launch} {E : EE} (hl : l.stackTraces = false) {h : HP} {a0 : Int32} (c0 : ¬ (a0.toInt < 0)) (c1 : ¬ (1 < a0.toInt)) (c2 : a0.toInt = 0) (o158 : ob h 32 = some (.inr (14, [.ref 33, .ref 162, .ref 166, .int (0 : Int32), .int (0 : Int32), .int (0 : Int32), .ref 167, .ref 170, .ref 173, .ref 177, .ref 193, .ref 208, .ref 222, .ref 238, .ref 252, .ref 274, .ref 275, .ref 276, .int (0 : Int32)]))) (o163 : ob h 359 = some (.inl (1, 1, .inr (.inl (fun _ => 0))))) : en_C l E M_L_fault 1 0 0 [.ref 32, .int a0, .ref 359] h (pF (some (.int (Int32.ofInt 0))) [359] h (fun h' => ob h' 359 = some (.inl (1, 1, .inr (.inl (fun _ => 0)))) ∧ True)) := by
  refine en_mkW m_L_fault rfl hl (Nat.le_of_ble_eq_true rfl) ?_
  refine x_aload_n (M := M_L_fault) dL_fault_0 rfl ?_
  refine x_iconst (M := M_L_fault) dL_fault_1 ?_
  refine x_aload_n (M := M_L_fault) dL_fault_2 rfl ?_
  refine x_iload_n (M := M_L_fault) dL_fault_3 rfl ?_
  refine x_callVH (M := M_L_fault) (M' := M_X11_fault) rfl dL_fault_4 m_X11_fault t_1036 t_1037 t_1038 o158 rfl [.int a0] rfl rfl (Nat.le_of_ble_eq_true rfl) (q157 hl c0 c1 c2 o158) (Nat.le_of_ble_eq_true rfl) (Nat.le_of_ble_eq_true rfl) (Nat.le_of_ble_eq_true rfl) (fun N h' hp => nomatch hp.1) (fun v h' hp => ?_)
  obtain ⟨e162, rfl⟩ := hp
  cases e162
  refine x_i2l (M := M_L_fault) dL_fault_7 ?_
  refine x_norm (M := M_L_fault) (st' := [.long (Int64.ofInt 0), .int (Int32.ofInt 0), .ref 359]) rfl (by rw [(by decide +kernel : ((Int32.ofInt 0).toInt64) = (Int64.ofInt 0))] <;> rfl) rfl rfl rfl ?_
  refine y_last (M := M_L_fault) (k := 0) dL_fault_8 o163 (vp_inD (by decide +kernel)) (by decide +kernel) (fun h164 w165 f166 => ?_)
  have w167 : ob h164 359 = some (.inl (1, 1, .inr (.inl (fun _ => 0)))) := by rw [w165, uq_z (k := 0)]
  refine x_goto (M := M_L_fault) (tgt := 15) dL_fault_9 (by decide) ?_
  refine x_iconst (M := M_L_fault) dL_fault_15 ?_
  exact x_iret (M := M_L_fault) dL_fault_16 rfl ⟨rfl, (fr_tr f166 (by decide) fr_rf), ⟨w167, trivial⟩⟩ (Nat.le_of_ble_eq_true rfl) (Nat.le_of_ble_eq_true rfl)
set_option maxRecDepth 10000 in
theorem q179 {l : Launch} {E : EE} (hl : l.stackTraces = false) {h : HP} {a0 : Int32} (c0 : ¬ (a0.toInt < 0)) (c1 : ¬ (1 < a0.toInt)) (c2 : a0.toInt = 0) : en_C l E M_X12_in 0 0 0 [.long (a0.toInt64), .long (Int64.ofInt 0), .long (Int64.ofInt 1)] h (pR (some (.int (Int32.ofInt 1))) h) := by
  refine en_mk m_X12_in rfl hl (Nat.le_of_ble_eq_true rfl) ?_
  refine x_lload_n (M := M_X12_in) dX12_in_0 rfl ?_
  refine x_lload_n (M := M_X12_in) dX12_in_1 rfl ?_
  refine x_lcmp (M := M_X12_in) dX12_in_2 ?_
  refine x_if_lt (M := M_X12_in) (tgt := 17) dX12_in_3 (by decide) (fun q => absurd ((bc_lt (i_i2l rfl) (by decide +kernel)).mp q) (by omega : ¬ (a0.toInt < 0))) (fun _ => ?_)
  refine x_lload_n (M := M_X12_in) dX12_in_6 rfl ?_
  refine x_lload (M := M_X12_in) dX12_in_7 rfl ?_
  refine x_lcmp (M := M_X12_in) dX12_in_9 ?_
  refine x_if_gt (M := M_X12_in) (tgt := 17) dX12_in_10 (by decide) (fun q => absurd ((bc_gt (i_i2l rfl) (by decide +kernel)).mp q) (by omega : ¬ (1 < a0.toInt))) (fun _ => ?_)
  refine x_iconst (M := M_X12_in) dX12_in_13 ?_
  refine x_goto (M := M_X12_in) (tgt := 18) dX12_in_14 (by decide) ?_
  exact x_zret (M := M_X12_in) dX12_in_18 rfl (by decide) ⟨rfl, rfl⟩ (Nat.le_of_ble_eq_true rfl) (Nat.le_of_ble_eq_true rfl)
set_option maxRecDepth 10000 in
theorem q185 {l : Launch} {E : EE} (hl : l.stackTraces = false) {h : HP} {dg : Int32} (o180 : ob h 277 = some (.inr (15, ((RB dg).set 0 (.int (Int32.ofInt 0)))))) : en_C l E M_X12_fails 0 0 0 [.ref 277, .int (Int32.ofInt 0), .int (Int32.ofInt 1)] h (pF (some (.int (Int32.ofInt 0))) [277] h (fun h' => ob h' 277 = some (.inr (15, ((RB dg).set 0 (.int (Int32.ofInt 0))))) ∧ True)) := by
  refine en_mk m_X12_fails rfl hl (Nat.le_of_ble_eq_true rfl) ?_
  refine x_aload_n (M := M_X12_fails) dX12_fails_0 rfl ?_
  refine x_iload_n (M := M_X12_fails) dX12_fails_1 rfl ?_
  refine x_if_eq (M := M_X12_fails) (tgt := 16) dX12_fails_2 (by decide) (fun _ => ?_) (fun q => absurd q (by decide +kernel))
  refine x_aload_n (M := M_X12_fails) dX12_fails_16 rfl ?_
  refine x_getf (M := M_X12_fails) (ci := 15) (C := RX12) (T := TX12) (N := 135) (ty := tyX12) cl15 dX12_fails_17 o180 0 (by decide) t_2391 (v := .int (Int32.ofInt 0)) rfl ?_
  refine y_put (M := M_X12_fails) (ci := 15) (C := RX12) (T := TX12) (N := 135) (ty := tyX12) cl15 dX12_fails_20 o180 0 (by decide) t_2391 (Or.inl rfl) (Nat.le_of_ble_eq_true rfl) rfl (fun h181 w182 f183 => ?_)
  have w184 : ob h181 277 = some (.inr (15, ((RB dg).set 0 (.int (Int32.ofInt 0))))) := by rw [w182, List.set_set]
  refine x_aload_n (M := M_X12_fails) dX12_fails_23 rfl ?_
  refine x_getf (M := M_X12_fails) (ci := 15) (C := RX12) (T := TX12) (N := 135) (ty := tyX12) cl15 dX12_fails_24 w184 0 (by decide) t_2391 (v := .int (Int32.ofInt 0)) rfl ?_
  refine x_if_eq (M := M_X12_fails) (tgt := 34) dX12_fails_27 (by decide) (fun _ => ?_) (fun q => absurd q (by decide +kernel))
  refine x_iconst (M := M_X12_fails) dX12_fails_34 ?_
  exact x_zret (M := M_X12_fails) dX12_fails_35 rfl (by decide) ⟨rfl, (fr_tr f183 (by decide) fr_rf), ⟨w184, trivial⟩⟩ (Nat.le_of_ble_eq_true rfl) (Nat.le_of_ble_eq_true rfl)
set_option maxRecDepth 10000 in
theorem q190 {l : Launch} {E : EE} (hl : l.stackTraces = false) {h : HP} {a0 : Int32} {dg : Int32} (c0 : ¬ (a0.toInt < 0)) (c1 : ¬ (1 < a0.toInt)) (c2 : a0.toInt = 0) (o175 : ob h 277 = some (.inr (15, (RB dg)))) : en_C l E M_X12_fault 1 0 0 [.ref 277, .int a0] h (pF (some (.int (Int32.ofInt 0))) [277] h (fun h' => ob h' 277 = some (.inr (15, ((RB dg).set 0 (.int (Int32.ofInt 0))))) ∧ True)) := by
  refine en_mk m_X12_fault rfl hl (Nat.le_of_ble_eq_true rfl) ?_
  refine x_aload_n (M := M_X12_fault) dX12_fault_0 rfl ?_
  refine x_iconst (M := M_X12_fault) dX12_fault_1 ?_
  refine y_put (M := M_X12_fault) (ci := 15) (C := RX12) (T := TX12) (N := 135) (ty := tyX12) cl15 dX12_fault_2 o175 0 (by decide) t_2391 (Or.inl rfl) (Nat.le_of_ble_eq_true rfl) rfl (fun h176 w177 f178 => ?_)
  refine x_aload_n (M := M_X12_fault) dX12_fault_5 rfl ?_
  refine x_iload_n (M := M_X12_fault) dX12_fault_6 rfl ?_
  refine x_i2l (M := M_X12_fault) dX12_fault_7 ?_
  refine x_lconst (M := M_X12_fault) dX12_fault_8 ?_
  refine x_lconst (M := M_X12_fault) dX12_fault_9 ?_
  refine x_norm (M := M_X12_fault) (st' := [.long (Int64.ofInt 1), .long (Int64.ofInt 0), .long (a0.toInt64), .ref 277]) rfl (by rw [(by decide +kernel : (Int64.ofNat ((1 : Fin 2) : Nat)) = (Int64.ofInt 1)), (by decide +kernel : (Int64.ofNat ((0 : Fin 2) : Nat)) = (Int64.ofInt 0))] <;> rfl) rfl rfl rfl ?_
  refine x_callSR (M := M_X12_fault) (M' := M_X12_in) rfl rfl dX12_fault_10 m_X12_in t_2818 t_2819 (q179 hl c0 c1 c2) rfl rfl (Nat.le_of_ble_eq_true rfl) (Nat.le_of_ble_eq_true rfl) (Nat.le_of_ble_eq_true rfl) (Nat.le_of_ble_eq_true rfl) ?_
  refine x_if_ne (M := M_X12_fault) (tgt := 20) dX12_fault_13 (by decide) (fun _ => ?_) (fun q => absurd q (by decide +kernel))
  refine x_iconst (M := M_X12_fault) dX12_fault_20 ?_
  refine x_iconst (M := M_X12_fault) dX12_fault_21 ?_
  refine y_callVR (M := M_X12_fault) (M' := M_X12_fails) rfl rfl dX12_fault_22 m_X12_fails t_2805 t_2807 s_157 (q185 hl w177) rfl rfl w177 rfl (Nat.le_of_ble_eq_true rfl) (Nat.le_of_ble_eq_true rfl) (Nat.le_of_ble_eq_true rfl) (Nat.le_of_ble_eq_true rfl) (fun h186 f187 w188 => ?_)
  obtain ⟨o189, -⟩ := w188
  refine x_if_eq (M := M_X12_fault) (tgt := 30) dX12_fault_25 (by decide) (fun _ => ?_) (fun q => absurd q (by decide +kernel))
  refine x_iload_n (M := M_X12_fault) dX12_fault_30 rfl ?_
  refine x_if_ne (M := M_X12_fault) (tgt := 41) dX12_fault_31 (by decide) (fun q => absurd ((bi_eq rfl (by decide +kernel)).mpr (by omega : (a0.toInt = 0 : Prop))) q) (fun _ => ?_)
  refine x_aload_n (M := M_X12_fault) dX12_fault_34 rfl ?_
  refine x_getf (M := M_X12_fault) (ci := 15) (C := RX12) (T := TX12) (N := 135) (ty := tyX12) cl15 dX12_fault_35 o189 7 (by decide) t_2398 (v := .int (0 : Int32)) rfl ?_
  refine x_goto (M := M_X12_fault) (tgt := 45) dX12_fault_38 (by decide) ?_
  refine x_top (M := M_X12_fault) (y := (Int32.ofInt 0)) (by decide +kernel) ?_
  exact x_iret (M := M_X12_fault) dX12_fault_45 rfl ⟨rfl, (fr_tr f187 (by decide) (fr_tr f178 (by decide) fr_rf)), ⟨o189, trivial⟩⟩ (Nat.le_of_ble_eq_true rfl) (Nat.le_of_ble_eq_true rfl)
set_option maxRecDepth 10000 in
theorem q198 {l : Launch} {E : EE} (hl : l.stackTraces = false) {h : HP} {dg : Int32} (o197 : ob h 277 = some (.inr (15, ((RB dg).set 0 (.int (Int32.ofInt 0)))))) : en_C l E M_X12_thrown 0 0 0 [.ref 277] h (pR (some (.int (Int32.ofInt 0))) h) := by
  refine en_mk m_X12_thrown rfl hl (Nat.le_of_ble_eq_true rfl) ?_
  refine x_aload_n (M := M_X12_thrown) dX12_thrown_0 rfl ?_
  refine x_getf (M := M_X12_thrown) (ci := 15) (C := RX12) (T := TX12) (N := 135) (ty := tyX12) cl15 dX12_thrown_1 o197 0 (by decide) t_2391 (v := .int (Int32.ofInt 0)) rfl ?_
  exact x_iret (M := M_X12_thrown) dX12_thrown_4 rfl ⟨rfl, rfl⟩ (Nat.le_of_ble_eq_true rfl) (Nat.le_of_ble_eq_true rfl)
set_option maxRecDepth 10000 in
theorem lc5_2 {l : Launch} {E : EE} (hl : l.stackTraces = false) (nm : String) {xs : Nat → Int32} (hx : E.2.2.2.2 0 = some (7, xs)) {h : HP} {a0 : Int32} {dg : Int32} (e2 : xs 2 = a0) (c0 : ¬ (a0.toInt < 0)) (c1 : ¬ (1 < a0.toInt)) (c2 : a0.toInt = 0) (o169 : ob h 32 = some (.inr (14, [.ref 33, .ref 162, .ref 166, .int (0 : Int32), .int (0 : Int32), .int (0 : Int32), .ref 167, .ref 170, .ref 173, .ref 177, .ref 193, .ref 208, .ref 222, .ref 238, .ref 252, .ref 274, .ref 275, .ref 276, .int (0 : Int32)]))) (o170 : ob h 359 = some (.inl (1, 1, .inr (.inl (fun _ => 0))))) (o191 : ob h 277 = some (.inr (15, (RB dg)))) : XX l E (M_law nm) 1312 342628 8074320 (fun o _ => o = .inl (some (.int 1))) 477 [some (.ref 0), some (.ref 32), some (.ref 277), some (.ref 359), some (.int (Int32.ofInt 1)), none, none, none] [] h 328 2463747 := by
  refine x_aload_n (M := (M_law nm)) dL_law_477 rfl ?_
  refine x_aload_n (M := (M_law nm)) dL_law_478 rfl ?_
  refine x_iload (M := (M_law nm)) dL_law_479 rfl ?_
  refine x_iconst (M := (M_law nm)) dL_law_481 ?_
  refine x_iadd (M := (M_law nm)) dL_law_482 ?_
  refine x_sald (M := (M_law nm)) dL_law_483 (by decide) hx (vp_inD (by decide +kernel)) ?_
  refine x_top (M := (M_law nm)) (y := a0) ((congrArg xs (by decide +kernel : ((Int32.ofInt 1) + (Int32.ofInt 1)).toNatClampNeg = 2)).trans e2) ?_
  refine x_aload_n (M := (M_law nm)) dL_law_484 rfl ?_
  refine y_callSW (M := (M_law nm)) (M' := M_L_fault) rfl rfl dL_law_485 m_L_fault t_1033 t_1034 (q168 hl c0 c1 c2 o169 o170) rfl rfl (Nat.le_of_ble_eq_true rfl) (Nat.le_of_ble_eq_true rfl) (Nat.le_of_ble_eq_true rfl) (Nat.le_of_ble_eq_true rfl) (fun h171 f172 w173 => ?_)
  obtain ⟨o174, -⟩ := w173
  refine x_istore (M := (M_law nm)) dL_law_488 (Nat.le_of_ble_eq_true rfl) rfl ?_
  refine x_aload_n (M := (M_law nm)) dL_law_490 rfl ?_
  refine x_aload_n (M := (M_law nm)) dL_law_491 rfl ?_
  refine x_iload (M := (M_law nm)) dL_law_492 rfl ?_
  refine x_iconst (M := (M_law nm)) dL_law_494 ?_
  refine x_iadd (M := (M_law nm)) dL_law_495 ?_
  refine x_sald (M := (M_law nm)) dL_law_496 (by decide) hx (vp_inD (by decide +kernel)) ?_
  refine x_top (M := (M_law nm)) (y := a0) ((congrArg xs (by decide +kernel : ((Int32.ofInt 1) + (Int32.ofInt 1)).toNatClampNeg = 2)).trans e2) ?_
  have o192 := (f172 277 _ (by decide) o191)
  refine y_callVR (M := (M_law nm)) (M' := M_X12_fault) rfl rfl dL_law_497 m_X12_fault t_2825 t_2826 t_2827 (q190 hl c0 c1 c2 o192) rfl rfl o192 rfl (Nat.le_of_ble_eq_true rfl) (Nat.le_of_ble_eq_true rfl) (Nat.le_of_ble_eq_true rfl) (Nat.le_of_ble_eq_true rfl) (fun h193 f194 w195 => ?_)
  obtain ⟨o196, -⟩ := w195
  refine x_istore (M := (M_law nm)) dL_law_500 (Nat.le_of_ble_eq_true rfl) rfl ?_
  refine x_aload_n (M := (M_law nm)) dL_law_502 rfl ?_
  refine x_callVR (M := (M_law nm)) (M' := M_X12_thrown) rfl rfl dL_law_503 m_X12_thrown t_2797 t_2798 t_2799 (q198 hl o196) rfl rfl o196 rfl (Nat.le_of_ble_eq_true rfl) (Nat.le_of_ble_eq_true rfl) (Nat.le_of_ble_eq_true rfl) (Nat.le_of_ble_eq_true rfl) ?_
  refine x_iload (M := (M_law nm)) dL_law_506 rfl ?_
  refine x_icmp_eq (M := (M_law nm)) (tgt := 513) dL_law_508 (by decide) (fun _ => ?_) (fun q => absurd q (by decide +kernel))
  refine x_iload (M := (M_law nm)) dL_law_513 rfl ?_
  refine x_if_ne (M := (M_law nm)) (tgt := 530) dL_law_515 (by decide) (fun q => absurd q (by decide +kernel)) (fun _ => ?_)
  refine x_aload_n (M := (M_law nm)) dL_law_518 rfl ?_
  refine x_iconst (M := (M_law nm)) dL_law_519 ?_
  have o199 := (f194 359 _ (by decide) o174)
  refine x_lald (M := (M_law nm)) dL_law_520 o199 (vp_inD (by decide +kernel)) ?_
  refine x_topl (M := (M_law nm)) (y := (Int64.ofInt 0)) (by decide +kernel) ?_
  refine x_iload (M := (M_law nm)) dL_law_521 rfl ?_
  refine x_i2l (M := (M_law nm)) dL_law_523 ?_
  refine x_lcmp (M := (M_law nm)) dL_law_524 ?_
  refine x_if_eq (M := (M_law nm)) (tgt := 530) dL_law_525 (by decide) (fun _ => ?_) (fun q => absurd q (by decide +kernel))
  refine x_goto (M := (M_law nm)) (tgt := 2449) dL_law_530 (by decide) ?_
  refine x_iinc (M := (M_law nm)) dL_law_2449 rfl (Nat.le_of_ble_eq_true rfl) rfl ?_
  refine x_lvs (M := (M_law nm)) (lv' := [some (.ref 0), some (.ref 32), some (.ref 277), some (.ref 359), some (.int (Int32.ofInt 7)), some (.int (Int32.ofInt 0)), some (.int (Int32.ofInt 0)), none]) (by rw [(by decide +kernel : (Int32.ofInt 1) + Int32.ofInt 6 = (Int32.ofInt 7))] <;> rfl) ?_
  refine x_goto (M := (M_law nm)) (tgt := 33) dL_law_2452 (by decide) ?_
  refine x_iload (M := (M_law nm)) dL_law_33 rfl ?_
  refine x_aload_n (M := (M_law nm)) dL_law_35 rfl ?_
  refine x_slen (M := (M_law nm)) dL_law_36 (by decide) hx ?_
  refine x_bipush (M := (M_law nm)) dL_law_37 ?_
  refine x_isub (M := (M_law nm)) dL_law_39 ?_
  refine x_icmp_gt (M := (M_law nm)) (tgt := 2455) dL_law_40 (by decide) (fun _ => ?_) (fun q => absurd q (by decide +kernel))
  refine x_iconst (M := (M_law nm)) dL_law_2455 ?_
  exact x_zret (M := (M_law nm)) dL_law_2456 rfl (by decide) rfl (Nat.le_of_ble_eq_true rfl) (Nat.le_of_ble_eq_true rfl)
set_option maxRecDepth 10000 in
theorem q201 {l : Launch} {E : EE} (hl : l.stackTraces = false) {h : HP} {a0 : Int32} (c0 : ¬ (a0.toInt < 0)) (c1 : ¬ (1 < a0.toInt)) (c2 : ¬ (a0.toInt = 0)) (o200 : ob h 32 = some (.inr (14, [.ref 33, .ref 162, .ref 166, .int (0 : Int32), .int (0 : Int32), .int (0 : Int32), .ref 167, .ref 170, .ref 173, .ref 177, .ref 193, .ref 208, .ref 222, .ref 238, .ref 252, .ref 274, .ref 275, .ref 276, .int (0 : Int32)]))) : en_C l E M_X11_fault 0 0 0 [.ref 32, .int a0] h (pR (some (.int (Int32.ofInt 0))) h) := by
  refine en_mk m_X11_fault rfl hl (Nat.le_of_ble_eq_true rfl) ?_
  refine x_iload_n (M := M_X11_fault) dX11_fault_0 rfl ?_
  refine x_if_lt (M := M_X11_fault) (tgt := 9) dX11_fault_1 (by decide) (fun q => absurd ((bi_lt rfl (by decide +kernel)).mp q) (by omega : ¬ (a0.toInt < 0))) (fun _ => ?_)
  refine x_iload_n (M := M_X11_fault) dX11_fault_4 rfl ?_
  refine x_iconst (M := M_X11_fault) dX11_fault_5 ?_
  refine x_icmp_le (M := M_X11_fault) (tgt := 17) dX11_fault_6 (by decide) (fun _ => ?_) (fun q => absurd ((bi_le rfl (by decide +kernel)).mpr (by omega : (a0.toInt ≤ 1 : Prop))) q)
  refine x_iload_n (M := M_X11_fault) dX11_fault_17 rfl ?_
  refine x_if_ne (M := M_X11_fault) (tgt := 28) dX11_fault_18 (by decide) (fun _ => ?_) (fun q => absurd ((bi_eq rfl (by decide +kernel)).mp q) (by omega : ¬ (a0.toInt = 0)))
  refine x_aload_n (M := M_X11_fault) dX11_fault_28 rfl ?_
  refine x_getf (M := M_X11_fault) (ci := 14) (C := RX11) (T := TX11) (N := 19) (ty := tyX11) cl14 dX11_fault_29 o200 5 (by decide) t_568 (v := .int (0 : Int32)) rfl ?_
  refine x_top (M := M_X11_fault) (y := (Int32.ofInt 0)) (by decide +kernel) ?_
  exact x_iret (M := M_X11_fault) dX11_fault_32 rfl ⟨rfl, rfl⟩ (Nat.le_of_ble_eq_true rfl) (Nat.le_of_ble_eq_true rfl)
set_option maxRecDepth 10000 in
theorem q212 {l : Launch} {E : EE} (hl : l.stackTraces = false) {h : HP} {a0 : Int32} (c0 : ¬ (a0.toInt < 0)) (c1 : ¬ (1 < a0.toInt)) (c2 : ¬ (a0.toInt = 0)) (o202 : ob h 32 = some (.inr (14, [.ref 33, .ref 162, .ref 166, .int (0 : Int32), .int (0 : Int32), .int (0 : Int32), .ref 167, .ref 170, .ref 173, .ref 177, .ref 193, .ref 208, .ref 222, .ref 238, .ref 252, .ref 274, .ref 275, .ref 276, .int (0 : Int32)]))) (o207 : ob h 359 = some (.inl (1, 1, .inr (.inl (fun _ => 0))))) : en_C l E M_L_fault 1 0 0 [.ref 32, .int a0, .ref 359] h (pF (some (.int (Int32.ofInt 0))) [359] h (fun h' => ob h' 359 = some (.inl (1, 1, .inr (.inl (fun _ => 0)))) ∧ True)) := by
  refine en_mkW m_L_fault rfl hl (Nat.le_of_ble_eq_true rfl) ?_
  refine x_aload_n (M := M_L_fault) dL_fault_0 rfl ?_
  refine x_iconst (M := M_L_fault) dL_fault_1 ?_
  refine x_aload_n (M := M_L_fault) dL_fault_2 rfl ?_
  refine x_iload_n (M := M_L_fault) dL_fault_3 rfl ?_
  refine x_callVH (M := M_L_fault) (M' := M_X11_fault) rfl dL_fault_4 m_X11_fault t_1036 t_1037 t_1038 o202 rfl [.int a0] rfl rfl (Nat.le_of_ble_eq_true rfl) (q201 hl c0 c1 c2 o202) (Nat.le_of_ble_eq_true rfl) (Nat.le_of_ble_eq_true rfl) (Nat.le_of_ble_eq_true rfl) (fun N h' hp => nomatch hp.1) (fun v h' hp => ?_)
  obtain ⟨e206, rfl⟩ := hp
  cases e206
  refine x_i2l (M := M_L_fault) dL_fault_7 ?_
  refine x_norm (M := M_L_fault) (st' := [.long (Int64.ofInt 0), .int (Int32.ofInt 0), .ref 359]) rfl (by rw [(by decide +kernel : ((Int32.ofInt 0).toInt64) = (Int64.ofInt 0))] <;> rfl) rfl rfl rfl ?_
  refine y_last (M := M_L_fault) (k := 0) dL_fault_8 o207 (vp_inD (by decide +kernel)) (by decide +kernel) (fun h208 w209 f210 => ?_)
  have w211 : ob h208 359 = some (.inl (1, 1, .inr (.inl (fun _ => 0)))) := by rw [w209, uq_z (k := 0)]
  refine x_goto (M := M_L_fault) (tgt := 15) dL_fault_9 (by decide) ?_
  refine x_iconst (M := M_L_fault) dL_fault_15 ?_
  exact x_iret (M := M_L_fault) dL_fault_16 rfl ⟨rfl, (fr_tr f210 (by decide) fr_rf), ⟨w211, trivial⟩⟩ (Nat.le_of_ble_eq_true rfl) (Nat.le_of_ble_eq_true rfl)
set_option maxRecDepth 10000 in
theorem q223 {l : Launch} {E : EE} (hl : l.stackTraces = false) {h : HP} {a0 : Int32} (c0 : ¬ (a0.toInt < 0)) (c1 : ¬ (1 < a0.toInt)) (c2 : ¬ (a0.toInt = 0)) : en_C l E M_X12_in 0 0 0 [.long (a0.toInt64), .long (Int64.ofInt 0), .long (Int64.ofInt 1)] h (pR (some (.int (Int32.ofInt 1))) h) := by
  refine en_mk m_X12_in rfl hl (Nat.le_of_ble_eq_true rfl) ?_
  refine x_lload_n (M := M_X12_in) dX12_in_0 rfl ?_
  refine x_lload_n (M := M_X12_in) dX12_in_1 rfl ?_
  refine x_lcmp (M := M_X12_in) dX12_in_2 ?_
  refine x_if_lt (M := M_X12_in) (tgt := 17) dX12_in_3 (by decide) (fun q => absurd ((bc_lt (i_i2l rfl) (by decide +kernel)).mp q) (by omega : ¬ (a0.toInt < 0))) (fun _ => ?_)
  refine x_lload_n (M := M_X12_in) dX12_in_6 rfl ?_
  refine x_lload (M := M_X12_in) dX12_in_7 rfl ?_
  refine x_lcmp (M := M_X12_in) dX12_in_9 ?_
  refine x_if_gt (M := M_X12_in) (tgt := 17) dX12_in_10 (by decide) (fun q => absurd ((bc_gt (i_i2l rfl) (by decide +kernel)).mp q) (by omega : ¬ (1 < a0.toInt))) (fun _ => ?_)
  refine x_iconst (M := M_X12_in) dX12_in_13 ?_
  refine x_goto (M := M_X12_in) (tgt := 18) dX12_in_14 (by decide) ?_
  exact x_zret (M := M_X12_in) dX12_in_18 rfl (by decide) ⟨rfl, rfl⟩ (Nat.le_of_ble_eq_true rfl) (Nat.le_of_ble_eq_true rfl)
set_option maxRecDepth 10000 in
theorem q228 {l : Launch} {E : EE} (hl : l.stackTraces = false) {h : HP} {a0 : Int32} {dg : Int32} (c0 : ¬ (a0.toInt < 0)) (c1 : ¬ (1 < a0.toInt)) (c2 : ¬ (a0.toInt = 0)) (o219 : ob h 277 = some (.inr (15, (RB dg)))) : en_C l E M_X12_fault 1 0 0 [.ref 277, .int a0] h (pF (some (.int (Int32.ofInt 0))) [277] h (fun h' => ob h' 277 = some (.inr (15, ((RB dg).set 0 (.int (Int32.ofInt 0))))) ∧ True)) := by
  refine en_mk m_X12_fault rfl hl (Nat.le_of_ble_eq_true rfl) ?_
  refine x_aload_n (M := M_X12_fault) dX12_fault_0 rfl ?_
  refine x_iconst (M := M_X12_fault) dX12_fault_1 ?_
  refine y_put (M := M_X12_fault) (ci := 15) (C := RX12) (T := TX12) (N := 135) (ty := tyX12) cl15 dX12_fault_2 o219 0 (by decide) t_2391 (Or.inl rfl) (Nat.le_of_ble_eq_true rfl) rfl (fun h220 w221 f222 => ?_)
  refine x_aload_n (M := M_X12_fault) dX12_fault_5 rfl ?_
  refine x_iload_n (M := M_X12_fault) dX12_fault_6 rfl ?_
  refine x_i2l (M := M_X12_fault) dX12_fault_7 ?_
  refine x_lconst (M := M_X12_fault) dX12_fault_8 ?_
  refine x_lconst (M := M_X12_fault) dX12_fault_9 ?_
  refine x_norm (M := M_X12_fault) (st' := [.long (Int64.ofInt 1), .long (Int64.ofInt 0), .long (a0.toInt64), .ref 277]) rfl (by rw [(by decide +kernel : (Int64.ofNat ((1 : Fin 2) : Nat)) = (Int64.ofInt 1)), (by decide +kernel : (Int64.ofNat ((0 : Fin 2) : Nat)) = (Int64.ofInt 0))] <;> rfl) rfl rfl rfl ?_
  refine x_callSR (M := M_X12_fault) (M' := M_X12_in) rfl rfl dX12_fault_10 m_X12_in t_2818 t_2819 (q223 hl c0 c1 c2) rfl rfl (Nat.le_of_ble_eq_true rfl) (Nat.le_of_ble_eq_true rfl) (Nat.le_of_ble_eq_true rfl) (Nat.le_of_ble_eq_true rfl) ?_
  refine x_if_ne (M := M_X12_fault) (tgt := 20) dX12_fault_13 (by decide) (fun _ => ?_) (fun q => absurd q (by decide +kernel))
  refine x_iconst (M := M_X12_fault) dX12_fault_20 ?_
  refine x_iconst (M := M_X12_fault) dX12_fault_21 ?_
  refine y_callVR (M := M_X12_fault) (M' := M_X12_fails) rfl rfl dX12_fault_22 m_X12_fails t_2805 t_2807 s_157 (q185 hl w221) rfl rfl w221 rfl (Nat.le_of_ble_eq_true rfl) (Nat.le_of_ble_eq_true rfl) (Nat.le_of_ble_eq_true rfl) (Nat.le_of_ble_eq_true rfl) (fun h224 f225 w226 => ?_)
  obtain ⟨o227, -⟩ := w226
  refine x_if_eq (M := M_X12_fault) (tgt := 30) dX12_fault_25 (by decide) (fun _ => ?_) (fun q => absurd q (by decide +kernel))
  refine x_iload_n (M := M_X12_fault) dX12_fault_30 rfl ?_
  refine x_if_ne (M := M_X12_fault) (tgt := 41) dX12_fault_31 (by decide) (fun _ => ?_) (fun q => absurd ((bi_eq rfl (by decide +kernel)).mp q) (by omega : ¬ (a0.toInt = 0)))
  refine x_aload_n (M := M_X12_fault) dX12_fault_41 rfl ?_
  refine x_getf (M := M_X12_fault) (ci := 15) (C := RX12) (T := TX12) (N := 135) (ty := tyX12) cl15 dX12_fault_42 o227 8 (by decide) t_2399 (v := .int (0 : Int32)) rfl ?_
  refine x_top (M := M_X12_fault) (y := (Int32.ofInt 0)) (by decide +kernel) ?_
  exact x_iret (M := M_X12_fault) dX12_fault_45 rfl ⟨rfl, (fr_tr f225 (by decide) (fr_tr f222 (by decide) fr_rf)), ⟨o227, trivial⟩⟩ (Nat.le_of_ble_eq_true rfl) (Nat.le_of_ble_eq_true rfl)
set_option maxRecDepth 10000 in
theorem lc5_3 {l : Launch} {E : EE} (hl : l.stackTraces = false) (nm : String) {xs : Nat → Int32} (hx : E.2.2.2.2 0 = some (7, xs)) {h : HP} {a0 : Int32} {dg : Int32} (e2 : xs 2 = a0) (c0 : ¬ (a0.toInt < 0)) (c1 : ¬ (1 < a0.toInt)) (c2 : ¬ (a0.toInt = 0)) (o213 : ob h 32 = some (.inr (14, [.ref 33, .ref 162, .ref 166, .int (0 : Int32), .int (0 : Int32), .int (0 : Int32), .ref 167, .ref 170, .ref 173, .ref 177, .ref 193, .ref 208, .ref 222, .ref 238, .ref 252, .ref 274, .ref 275, .ref 276, .int (0 : Int32)]))) (o214 : ob h 359 = some (.inl (1, 1, .inr (.inl (fun _ => 0))))) (o229 : ob h 277 = some (.inr (15, (RB dg)))) : XX l E (M_law nm) 1312 342628 8074320 (fun o _ => o = .inl (some (.int 1))) 477 [some (.ref 0), some (.ref 32), some (.ref 277), some (.ref 359), some (.int (Int32.ofInt 1)), none, none, none] [] h 328 2463747 := by
  refine x_aload_n (M := (M_law nm)) dL_law_477 rfl ?_
  refine x_aload_n (M := (M_law nm)) dL_law_478 rfl ?_
  refine x_iload (M := (M_law nm)) dL_law_479 rfl ?_
  refine x_iconst (M := (M_law nm)) dL_law_481 ?_
  refine x_iadd (M := (M_law nm)) dL_law_482 ?_
  refine x_sald (M := (M_law nm)) dL_law_483 (by decide) hx (vp_inD (by decide +kernel)) ?_
  refine x_top (M := (M_law nm)) (y := a0) ((congrArg xs (by decide +kernel : ((Int32.ofInt 1) + (Int32.ofInt 1)).toNatClampNeg = 2)).trans e2) ?_
  refine x_aload_n (M := (M_law nm)) dL_law_484 rfl ?_
  refine y_callSW (M := (M_law nm)) (M' := M_L_fault) rfl rfl dL_law_485 m_L_fault t_1033 t_1034 (q212 hl c0 c1 c2 o213 o214) rfl rfl (Nat.le_of_ble_eq_true rfl) (Nat.le_of_ble_eq_true rfl) (Nat.le_of_ble_eq_true rfl) (Nat.le_of_ble_eq_true rfl) (fun h215 f216 w217 => ?_)
  obtain ⟨o218, -⟩ := w217
  refine x_istore (M := (M_law nm)) dL_law_488 (Nat.le_of_ble_eq_true rfl) rfl ?_
  refine x_aload_n (M := (M_law nm)) dL_law_490 rfl ?_
  refine x_aload_n (M := (M_law nm)) dL_law_491 rfl ?_
  refine x_iload (M := (M_law nm)) dL_law_492 rfl ?_
  refine x_iconst (M := (M_law nm)) dL_law_494 ?_
  refine x_iadd (M := (M_law nm)) dL_law_495 ?_
  refine x_sald (M := (M_law nm)) dL_law_496 (by decide) hx (vp_inD (by decide +kernel)) ?_
  refine x_top (M := (M_law nm)) (y := a0) ((congrArg xs (by decide +kernel : ((Int32.ofInt 1) + (Int32.ofInt 1)).toNatClampNeg = 2)).trans e2) ?_
  have o230 := (f216 277 _ (by decide) o229)
  refine y_callVR (M := (M_law nm)) (M' := M_X12_fault) rfl rfl dL_law_497 m_X12_fault t_2825 t_2826 t_2827 (q228 hl c0 c1 c2 o230) rfl rfl o230 rfl (Nat.le_of_ble_eq_true rfl) (Nat.le_of_ble_eq_true rfl) (Nat.le_of_ble_eq_true rfl) (Nat.le_of_ble_eq_true rfl) (fun h231 f232 w233 => ?_)
  obtain ⟨o234, -⟩ := w233
  refine x_istore (M := (M_law nm)) dL_law_500 (Nat.le_of_ble_eq_true rfl) rfl ?_
  refine x_aload_n (M := (M_law nm)) dL_law_502 rfl ?_
  refine x_callVR (M := (M_law nm)) (M' := M_X12_thrown) rfl rfl dL_law_503 m_X12_thrown t_2797 t_2798 t_2799 (q198 hl o234) rfl rfl o234 rfl (Nat.le_of_ble_eq_true rfl) (Nat.le_of_ble_eq_true rfl) (Nat.le_of_ble_eq_true rfl) (Nat.le_of_ble_eq_true rfl) ?_
  refine x_iload (M := (M_law nm)) dL_law_506 rfl ?_
  refine x_icmp_eq (M := (M_law nm)) (tgt := 513) dL_law_508 (by decide) (fun _ => ?_) (fun q => absurd q (by decide +kernel))
  refine x_iload (M := (M_law nm)) dL_law_513 rfl ?_
  refine x_if_ne (M := (M_law nm)) (tgt := 530) dL_law_515 (by decide) (fun q => absurd q (by decide +kernel)) (fun _ => ?_)
  refine x_aload_n (M := (M_law nm)) dL_law_518 rfl ?_
  refine x_iconst (M := (M_law nm)) dL_law_519 ?_
  have o235 := (f232 359 _ (by decide) o218)
  refine x_lald (M := (M_law nm)) dL_law_520 o235 (vp_inD (by decide +kernel)) ?_
  refine x_topl (M := (M_law nm)) (y := (Int64.ofInt 0)) (by decide +kernel) ?_
  refine x_iload (M := (M_law nm)) dL_law_521 rfl ?_
  refine x_i2l (M := (M_law nm)) dL_law_523 ?_
  refine x_lcmp (M := (M_law nm)) dL_law_524 ?_
  refine x_if_eq (M := (M_law nm)) (tgt := 530) dL_law_525 (by decide) (fun _ => ?_) (fun q => absurd q (by decide +kernel))
  refine x_goto (M := (M_law nm)) (tgt := 2449) dL_law_530 (by decide) ?_
  refine x_iinc (M := (M_law nm)) dL_law_2449 rfl (Nat.le_of_ble_eq_true rfl) rfl ?_
  refine x_lvs (M := (M_law nm)) (lv' := [some (.ref 0), some (.ref 32), some (.ref 277), some (.ref 359), some (.int (Int32.ofInt 7)), some (.int (Int32.ofInt 0)), some (.int (Int32.ofInt 0)), none]) (by rw [(by decide +kernel : (Int32.ofInt 1) + Int32.ofInt 6 = (Int32.ofInt 7))] <;> rfl) ?_
  refine x_goto (M := (M_law nm)) (tgt := 33) dL_law_2452 (by decide) ?_
  refine x_iload (M := (M_law nm)) dL_law_33 rfl ?_
  refine x_aload_n (M := (M_law nm)) dL_law_35 rfl ?_
  refine x_slen (M := (M_law nm)) dL_law_36 (by decide) hx ?_
  refine x_bipush (M := (M_law nm)) dL_law_37 ?_
  refine x_isub (M := (M_law nm)) dL_law_39 ?_
  refine x_icmp_gt (M := (M_law nm)) (tgt := 2455) dL_law_40 (by decide) (fun _ => ?_) (fun q => absurd q (by decide +kernel))
  refine x_iconst (M := (M_law nm)) dL_law_2455 ?_
  exact x_zret (M := (M_law nm)) dL_law_2456 rfl (by decide) rfl (Nat.le_of_ble_eq_true rfl) (Nat.le_of_ble_eq_true rfl)
theorem lop5 {l : Launch} {E : EE} (hl : l.stackTraces = false) (nm : String) {xs : Nat → Int32} (hx : E.2.2.2.2 0 = some (7, xs)) (dg : Int32) : XX l E (M_law nm) 1312 342628 8074320 (fun o _ => o = .inl (some (.int 1))) 477 [some (.ref 0), some (.ref 32), some (.ref 277), some (.ref 359), some (.int (Int32.ofInt 1)), none, none, none] [] (HH dg) 328 2463747 := by
  obtain ⟨a0, e2⟩ : ∃ a : Int32, xs 2 = a := ⟨_, rfl⟩
  obtain ⟨a1, e3⟩ : ∃ a : Int32, xs 3 = a := ⟨_, rfl⟩
  obtain ⟨a2, e4⟩ : ∃ a : Int32, xs 4 = a := ⟨_, rfl⟩
  obtain ⟨a3, e5⟩ : ∃ a : Int32, xs 5 = a := ⟨_, rfl⟩
  obtain ⟨a4, e6⟩ : ∃ a : Int32, xs 6 = a := ⟨_, rfl⟩
  by_cases c0 : a0.toInt < 0
  · exact lc5_0 hl nm hx e2 c0 (o_32 dg) (o_277b dg)
  · by_cases c1 : 1 < a0.toInt
    · exact lc5_1 hl nm hx e2 c0 c1 (o_32 dg) (o_277b dg)
    · by_cases c2 : a0.toInt = 0
      · exact lc5_2 hl nm hx e2 c0 c1 c2 (o_32 dg) (o_359 dg) (o_277b dg)
      · exact lc5_3 hl nm hx e2 c0 c1 c2 (o_32 dg) (o_359 dg) (o_277b dg)
end CAS
