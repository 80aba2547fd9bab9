section CAS
theorem dL_writeWords_0 : decode cL_writeWords 0 = .ok (.aload_n 2, 1) := by decide +kernel
theorem dL_writeWords_1 : decode cL_writeWords 1 = .ok (.iconst 0, 1) := by decide +kernel
theorem dL_writeWords_2 : decode cL_writeWords 2 = .ok (.aload_n 0, 1) := by decide +kernel
theorem dL_writeWords_3 : decode cL_writeWords 3 = .ok (.iload_n 1, 1) := by decide +kernel
theorem dL_writeWords_4 : decode cL_writeWords 4 = .ok (.invokevirtual 32, 3) := by decide +kernel
theorem dL_writeWords_12 : decode cL_writeWords 12 = .ok (.astore_n 3, 1) := by decide +kernel
theorem dL_writeWords_13 : decode cL_writeWords 13 = .ok (.iconst 1, 1) := by decide +kernel
theorem dL_writeWords_14 : decode cL_writeWords 14 = .ok (.ireturn, 1) := by decide +kernel
theorem dL_writeWords_15 : decode cL_writeWords 15 = .ok (.astore_n 3, 1) := by decide +kernel
theorem dL_writeWords_16 : decode cL_writeWords 16 = .ok (.iconst 2, 1) := by decide +kernel
theorem dL_writeWords_17 : decode cL_writeWords 17 = .ok (.ireturn, 1) := by decide +kernel
theorem dX11_writeWords_0 : decode cX11_writeWords 0 = .ok (.aload_n 0, 1) := by decide +kernel
theorem dX11_writeWords_1 : decode cX11_writeWords 1 = .ok (.iload_n 1, 1) := by decide +kernel
theorem dX11_writeWords_2 : decode cX11_writeWords 2 = .ok (.invokevirtual 140, 3) := by decide +kernel
theorem dX11_writeWords_5 : decode cX11_writeWords 5 = .ok (.astore_n 2, 1) := by decide +kernel
theorem dX11_writeWords_6 : decode cX11_writeWords 6 = .ok (.aload_n 2, 1) := by decide +kernel
theorem dX11_writeWords_7 : decode cX11_writeWords 7 = .ok (.invokestatic 172, 3) := by decide +kernel
theorem dX12_writeWords_0 : decode cX12_writeWords 0 = .ok (.aload_n 0, 1) := by decide +kernel
theorem dX12_writeWords_1 : decode cX12_writeWords 1 = .ok (.iconst 0, 1) := by decide +kernel
theorem dX12_writeWords_2 : decode cX12_writeWords 2 = .ok (.putfield 271, 3) := by decide +kernel
theorem dX12_writeWords_5 : decode cX12_writeWords 5 = .ok (.aload_n 0, 1) := by decide +kernel
theorem dX12_writeWords_6 : decode cX12_writeWords 6 = .ok (.iload_n 1, 1) := by decide +kernel
theorem dX12_writeWords_7 : decode cX12_writeWords 7 = .ok (.invokestatic 440, 3) := by decide +kernel
theorem dX12_writeWords_10 : decode cX12_writeWords 10 = .ok (.ifCond .ne 7, 3) := by decide +kernel
theorem dX12_writeWords_13 : decode cX12_writeWords 13 = .ok (.iconst 1, 1) := by decide +kernel
theorem dX12_writeWords_14 : decode cX12_writeWords 14 = .ok (.goto 4, 3) := by decide +kernel
theorem dX12_writeWords_17 : decode cX12_writeWords 17 = .ok (.iconst 0, 1) := by decide +kernel
theorem dX12_writeWords_18 : decode cX12_writeWords 18 = .ok (.iconst 1, 1) := by decide +kernel
theorem dX12_writeWords_19 : decode cX12_writeWords 19 = .ok (.invokevirtual 277, 3) := by decide +kernel
theorem dX12_writeWords_22 : decode cX12_writeWords 22 = .ok (.ifCond .ne 24, 3) := by decide +kernel
theorem dX12_writeWords_25 : decode cX12_writeWords 25 = .ok (.aload_n 0, 1) := by decide +kernel
theorem dX12_writeWords_26 : decode cX12_writeWords 26 = .ok (.aload_n 0, 1) := by decide +kernel
theorem dX12_writeWords_27 : decode cX12_writeWords 27 = .ok (.iload_n 1, 1) := by decide +kernel
theorem dX12_writeWords_28 : decode cX12_writeWords 28 = .ok (.invokevirtual 545, 3) := by decide +kernel
theorem dX12_writeWords_31 : decode cX12_writeWords 31 = .ok (.ifCond .ne 7, 3) := by decide +kernel
theorem dX12_writeWords_34 : decode cX12_writeWords 34 = .ok (.iconst 1, 1) := by decide +kernel
theorem dX12_writeWords_35 : decode cX12_writeWords 35 = .ok (.goto 4, 3) := by decide +kernel
theorem dX12_writeWords_39 : decode cX12_writeWords 39 = .ok (.iconst 2, 1) := by decide +kernel
theorem dX12_writeWords_40 : decode cX12_writeWords 40 = .ok (.invokevirtual 277, 3) := by decide +kernel
theorem dX12_writeWords_43 : decode cX12_writeWords 43 = .ok (.ifCond .eq 5, 3) := by decide +kernel
theorem dX12_writeWords_46 : decode cX12_writeWords 46 = .ok (.iconst 0, 1) := by decide +kernel
theorem dX12_writeWords_47 : decode cX12_writeWords 47 = .ok (.ireturn, 1) := by decide +kernel
theorem dL_judge_0 : decode cL_judge 0 = .ok (.aload_n 2, 1) := by decide +kernel
theorem dL_judge_1 : decode cL_judge 1 = .ok (.iconst 0, 1) := by decide +kernel
theorem dL_judge_2 : decode cL_judge 2 = .ok (.aload_n 0, 1) := by decide +kernel
theorem dL_judge_3 : decode cL_judge 3 = .ok (.iload_n 1, 1) := by decide +kernel
theorem dL_judge_4 : decode cL_judge 4 = .ok (.invokevirtual 53, 3) := by decide +kernel
theorem dL_judge_12 : decode cL_judge 12 = .ok (.astore_n 3, 1) := by decide +kernel
theorem dL_judge_13 : decode cL_judge 13 = .ok (.iconst 1, 1) := by decide +kernel
theorem dL_judge_14 : decode cL_judge 14 = .ok (.ireturn, 1) := by decide +kernel
theorem dL_judge_15 : decode cL_judge 15 = .ok (.astore_n 3, 1) := by decide +kernel
theorem dL_judge_16 : decode cL_judge 16 = .ok (.iconst 2, 1) := by decide +kernel
theorem dL_judge_17 : decode cL_judge 17 = .ok (.ireturn, 1) := by decide +kernel
theorem dX11_judge_0 : decode cX11_judge 0 = .ok (.aload_n 0, 1) := by decide +kernel
theorem dX11_judge_1 : decode cX11_judge 1 = .ok (.iload_n 1, 1) := by decide +kernel
theorem dX11_judge_2 : decode cX11_judge 2 = .ok (.invokevirtual 140, 3) := by decide +kernel
theorem dX11_judge_5 : decode cX11_judge 5 = .ok (.astore_n 2, 1) := by decide +kernel
theorem dX11_judge_6 : decode cX11_judge 6 = .ok (.aload_n 2, 1) := by decide +kernel
theorem dX11_judge_7 : decode cX11_judge 7 = .ok (.invokestatic 172, 3) := by decide +kernel
theorem dX12_judge_0 : decode cX12_judge 0 = .ok (.aload_n 0, 1) := by decide +kernel
theorem dX12_judge_1 : decode cX12_judge 1 = .ok (.iconst 0, 1) := by decide +kernel
theorem dX12_judge_2 : decode cX12_judge 2 = .ok (.putfield 271, 3) := by decide +kernel
theorem dX12_judge_5 : decode cX12_judge 5 = .ok (.aload_n 0, 1) := by decide +kernel
theorem dX12_judge_6 : decode cX12_judge 6 = .ok (.iload_n 1, 1) := by decide +kernel
theorem dX12_judge_7 : decode cX12_judge 7 = .ok (.invokestatic 440, 3) := by decide +kernel
theorem dX12_judge_10 : decode cX12_judge 10 = .ok (.ifCond .ne 7, 3) := by decide +kernel
theorem dX12_judge_13 : decode cX12_judge 13 = .ok (.iconst 1, 1) := by decide +kernel
theorem dX12_judge_14 : decode cX12_judge 14 = .ok (.goto 4, 3) := by decide +kernel
theorem dX12_judge_17 : decode cX12_judge 17 = .ok (.iconst 0, 1) := by decide +kernel
theorem dX12_judge_18 : decode cX12_judge 18 = .ok (.iconst 1, 1) := by decide +kernel
theorem dX12_judge_19 : decode cX12_judge 19 = .ok (.invokevirtual 277, 3) := by decide +kernel
theorem dX12_judge_22 : decode cX12_judge 22 = .ok (.ifCond .ne 24, 3) := by decide +kernel
theorem dX12_judge_25 : decode cX12_judge 25 = .ok (.aload_n 0, 1) := by decide +kernel
theorem dX12_judge_26 : decode cX12_judge 26 = .ok (.aload_n 0, 1) := by decide +kernel
theorem dX12_judge_27 : decode cX12_judge 27 = .ok (.iload_n 1, 1) := by decide +kernel
theorem dX12_judge_28 : decode cX12_judge 28 = .ok (.invokevirtual 545, 3) := by decide +kernel
theorem dX12_judge_31 : decode cX12_judge 31 = .ok (.ifCond .ne 7, 3) := by decide +kernel
theorem dX12_judge_34 : decode cX12_judge 34 = .ok (.iconst 1, 1) := by decide +kernel
theorem dX12_judge_35 : decode cX12_judge 35 = .ok (.goto 4, 3) := by decide +kernel
theorem dX12_judge_39 : decode cX12_judge 39 = .ok (.iconst 2, 1) := by decide +kernel
theorem dX12_judge_40 : decode cX12_judge 40 = .ok (.invokevirtual 277, 3) := by decide +kernel
theorem dX12_judge_43 : decode cX12_judge 43 = .ok (.ifCond .eq 5, 3) := by decide +kernel
theorem dX12_judge_46 : decode cX12_judge 46 = .ok (.iconst 0, 1) := by decide +kernel
theorem dX12_judge_47 : decode cX12_judge 47 = .ok (.ireturn, 1) := by decide +kernel
theorem dL_bounds_0 : decode cL_bounds 0 = .ok (.aload_n 3, 1) := by decide +kernel
theorem dL_bounds_1 : decode cL_bounds 1 = .ok (.iconst 0, 1) := by decide +kernel
theorem dL_bounds_2 : decode cL_bounds 2 = .ok (.aload_n 0, 1) := by decide +kernel
theorem dL_bounds_3 : decode cL_bounds 3 = .ok (.iload_n 1, 1) := by decide +kernel
theorem dL_bounds_4 : decode cL_bounds 4 = .ok (.iload_n 2, 1) := by decide +kernel
theorem dL_bounds_5 : decode cL_bounds 5 = .ok (.invokevirtual 89, 3) := by decide +kernel
theorem dL_bounds_13 : decode cL_bounds 13 = .ok (.astore 4, 2) := by decide +kernel
theorem dL_bounds_15 : decode cL_bounds 15 = .ok (.iconst 1, 1) := by decide +kernel
theorem dL_bounds_16 : decode cL_bounds 16 = .ok (.ireturn, 1) := by decide +kernel
theorem dL_bounds_17 : decode cL_bounds 17 = .ok (.astore 4, 2) := by decide +kernel
theorem dL_bounds_19 : decode cL_bounds 19 = .ok (.iconst 2, 1) := by decide +kernel
theorem dL_bounds_20 : decode cL_bounds 20 = .ok (.ireturn, 1) := by decide +kernel
theorem dX11_bounds_0 : decode cX11_bounds 0 = .ok (.aload_n 0, 1) := by decide +kernel
theorem dX11_bounds_1 : decode cX11_bounds 1 = .ok (.iload_n 1, 1) := by decide +kernel
theorem dX11_bounds_2 : decode cX11_bounds 2 = .ok (.invokevirtual 140, 3) := by decide +kernel
theorem dX11_bounds_5 : decode cX11_bounds 5 = .ok (.astore_n 3, 1) := by decide +kernel
theorem dX11_bounds_6 : decode cX11_bounds 6 = .ok (.aload_n 3, 1) := by decide +kernel
theorem dX11_bounds_7 : decode cX11_bounds 7 = .ok (.invokestatic 172, 3) := by decide +kernel
theorem dX12_bounds_0 : decode cX12_bounds 0 = .ok (.aload_n 0, 1) := by decide +kernel
theorem dX12_bounds_1 : decode cX12_bounds 1 = .ok (.iconst 0, 1) := by decide +kernel
theorem dX12_bounds_2 : decode cX12_bounds 2 = .ok (.putfield 271, 3) := by decide +kernel
theorem dX12_bounds_5 : decode cX12_bounds 5 = .ok (.aload_n 0, 1) := by decide +kernel
theorem dX12_bounds_6 : decode cX12_bounds 6 = .ok (.iload_n 1, 1) := by decide +kernel
theorem dX12_bounds_7 : decode cX12_bounds 7 = .ok (.invokestatic 440, 3) := by decide +kernel
theorem dX12_bounds_10 : decode cX12_bounds 10 = .ok (.ifCond .ne 7, 3) := by decide +kernel
theorem dX12_bounds_13 : decode cX12_bounds 13 = .ok (.iconst 1, 1) := by decide +kernel
theorem dX12_bounds_14 : decode cX12_bounds 14 = .ok (.goto 4, 3) := by decide +kernel
theorem dX12_bounds_17 : decode cX12_bounds 17 = .ok (.iconst 0, 1) := by decide +kernel
theorem dX12_bounds_18 : decode cX12_bounds 18 = .ok (.iconst 1, 1) := by decide +kernel
theorem dX12_bounds_19 : decode cX12_bounds 19 = .ok (.invokevirtual 277, 3) := by decide +kernel
theorem dX12_bounds_22 : decode cX12_bounds 22 = .ok (.ifCond .ne 57, 3) := by decide +kernel
theorem dX12_bounds_25 : decode cX12_bounds 25 = .ok (.aload_n 0, 1) := by decide +kernel
theorem dX12_bounds_26 : decode cX12_bounds 26 = .ok (.aload_n 0, 1) := by decide +kernel
theorem dX12_bounds_27 : decode cX12_bounds 27 = .ok (.iload_n 1, 1) := by decide +kernel
theorem dX12_bounds_28 : decode cX12_bounds 28 = .ok (.invokevirtual 545, 3) := by decide +kernel
theorem dX12_bounds_31 : decode cX12_bounds 31 = .ok (.ifCond .ne 7, 3) := by decide +kernel
theorem dX12_bounds_34 : decode cX12_bounds 34 = .ok (.iconst 1, 1) := by decide +kernel
theorem dX12_bounds_35 : decode cX12_bounds 35 = .ok (.goto 4, 3) := by decide +kernel
theorem dX12_bounds_39 : decode cX12_bounds 39 = .ok (.iconst 2, 1) := by decide +kernel
theorem dX12_bounds_40 : decode cX12_bounds 40 = .ok (.invokevirtual 277, 3) := by decide +kernel
theorem dX12_bounds_43 : decode cX12_bounds 43 = .ok (.ifCond .ne 36, 3) := by decide +kernel
theorem dX12_bounds_79 : decode cX12_bounds 79 = .ok (.iconst 0, 1) := by decide +kernel
theorem dX12_bounds_80 : decode cX12_bounds 80 = .ok (.ireturn, 1) := by decide +kernel
theorem dL_writeBytes_0 : decode cL_writeBytes 0 = .ok (.aload_n 3, 1) := by decide +kernel
theorem dL_writeBytes_1 : decode cL_writeBytes 1 = .ok (.iconst 0, 1) := by decide +kernel
theorem dL_writeBytes_2 : decode cL_writeBytes 2 = .ok (.aload_n 0, 1) := by decide +kernel
theorem dL_writeBytes_3 : decode cL_writeBytes 3 = .ok (.iload_n 1, 1) := by decide +kernel
theorem dL_writeBytes_4 : decode cL_writeBytes 4 = .ok (.iload_n 2, 1) := by decide +kernel
theorem dL_writeBytes_5 : decode cL_writeBytes 5 = .ok (.invokevirtual 35, 3) := by decide +kernel
theorem dL_writeBytes_13 : decode cL_writeBytes 13 = .ok (.astore 4, 2) := by decide +kernel
theorem dL_writeBytes_15 : decode cL_writeBytes 15 = .ok (.iconst 1, 1) := by decide +kernel
theorem dL_writeBytes_16 : decode cL_writeBytes 16 = .ok (.ireturn, 1) := by decide +kernel
theorem dL_writeBytes_17 : decode cL_writeBytes 17 = .ok (.astore 4, 2) := by decide +kernel
theorem dL_writeBytes_19 : decode cL_writeBytes 19 = .ok (.iconst 2, 1) := by decide +kernel
theorem dL_writeBytes_20 : decode cL_writeBytes 20 = .ok (.ireturn, 1) := by decide +kernel
theorem dX11_writeBytes_0 : decode cX11_writeBytes 0 = .ok (.aload_n 0, 1) := by decide +kernel
theorem dX11_writeBytes_1 : decode cX11_writeBytes 1 = .ok (.iload_n 1, 1) := by decide +kernel
theorem dX11_writeBytes_2 : decode cX11_writeBytes 2 = .ok (.invokevirtual 140, 3) := by decide +kernel
theorem dX11_writeBytes_5 : decode cX11_writeBytes 5 = .ok (.astore_n 3, 1) := by decide +kernel
theorem dX11_writeBytes_6 : decode cX11_writeBytes 6 = .ok (.aload_n 3, 1) := by decide +kernel
theorem dX11_writeBytes_7 : decode cX11_writeBytes 7 = .ok (.invokestatic 172, 3) := by decide +kernel
theorem dX12_writeBytes_0 : decode cX12_writeBytes 0 = .ok (.aload_n 0, 1) := by decide +kernel
theorem dX12_writeBytes_1 : decode cX12_writeBytes 1 = .ok (.iconst 0, 1) := by decide +kernel
theorem dX12_writeBytes_2 : decode cX12_writeBytes 2 = .ok (.putfield 271, 3) := by decide +kernel
theorem dX12_writeBytes_5 : decode cX12_writeBytes 5 = .ok (.aload_n 0, 1) := by decide +kernel
theorem dX12_writeBytes_6 : decode cX12_writeBytes 6 = .ok (.iload_n 1, 1) := by decide +kernel
theorem dX12_writeBytes_7 : decode cX12_writeBytes 7 = .ok (.invokestatic 440, 3) := by decide +kernel
theorem dX12_writeBytes_10 : decode cX12_writeBytes 10 = .ok (.ifCond .ne 7, 3) := by decide +kernel
theorem dX12_writeBytes_13 : decode cX12_writeBytes 13 = .ok (.iconst 1, 1) := by decide +kernel
theorem dX12_writeBytes_14 : decode cX12_writeBytes 14 = .ok (.goto 4, 3) := by decide +kernel
theorem dX12_writeBytes_17 : decode cX12_writeBytes 17 = .ok (.iconst 0, 1) := by decide +kernel
theorem dX12_writeBytes_18 : decode cX12_writeBytes 18 = .ok (.iconst 1, 1) := by decide +kernel
theorem dX12_writeBytes_19 : decode cX12_writeBytes 19 = .ok (.invokevirtual 277, 3) := by decide +kernel
theorem dX12_writeBytes_22 : decode cX12_writeBytes 22 = .ok (.ifCond .ne 47, 3) := by decide +kernel
theorem dX12_writeBytes_25 : decode cX12_writeBytes 25 = .ok (.aload_n 0, 1) := by decide +kernel
theorem dX12_writeBytes_26 : decode cX12_writeBytes 26 = .ok (.aload_n 0, 1) := by decide +kernel
theorem dX12_writeBytes_27 : decode cX12_writeBytes 27 = .ok (.iload_n 1, 1) := by decide +kernel
theorem dX12_writeBytes_28 : decode cX12_writeBytes 28 = .ok (.invokevirtual 545, 3) := by decide +kernel
theorem dX12_writeBytes_31 : decode cX12_writeBytes 31 = .ok (.ifCond .ne 7, 3) := by decide +kernel
theorem dX12_writeBytes_34 : decode cX12_writeBytes 34 = .ok (.iconst 1, 1) := by decide +kernel
theorem dX12_writeBytes_35 : decode cX12_writeBytes 35 = .ok (.goto 4, 3) := by decide +kernel
theorem dX12_writeBytes_39 : decode cX12_writeBytes 39 = .ok (.iconst 2, 1) := by decide +kernel
theorem dX12_writeBytes_40 : decode cX12_writeBytes 40 = .ok (.invokevirtual 277, 3) := by decide +kernel
theorem dX12_writeBytes_43 : decode cX12_writeBytes 43 = .ok (.ifCond .ne 26, 3) := by decide +kernel
theorem dX12_writeBytes_69 : decode cX12_writeBytes 69 = .ok (.iconst 0, 1) := by decide +kernel
theorem dX12_writeBytes_70 : decode cX12_writeBytes 70 = .ok (.ireturn, 1) := by decide +kernel
theorem dL_drop_0 : decode cL_drop 0 = .ok (.aload_n 2, 1) := by decide +kernel
theorem dL_drop_1 : decode cL_drop 1 = .ok (.iconst 0, 1) := by decide +kernel
theorem dL_drop_2 : decode cL_drop 2 = .ok (.aload_n 0, 1) := by decide +kernel
theorem dL_drop_3 : decode cL_drop 3 = .ok (.iload_n 1, 1) := by decide +kernel
theorem dL_drop_4 : decode cL_drop 4 = .ok (.invokevirtual 45, 3) := by decide +kernel
theorem dL_drop_7 : decode cL_drop 7 = .ok (.ifCond .eq 7, 3) := by decide +kernel
theorem dL_drop_14 : decode cL_drop 14 = .ok (.lconst 0, 1) := by decide +kernel
theorem dL_drop_15 : decode cL_drop 15 = .ok (.lastore, 1) := by decide +kernel
theorem dL_drop_16 : decode cL_drop 16 = .ok (.goto 6, 3) := by decide +kernel
theorem dL_drop_19 : decode cL_drop 19 = .ok (.astore_n 3, 1) := by decide +kernel
theorem dL_drop_20 : decode cL_drop 20 = .ok (.iconst 1, 1) := by decide +kernel
theorem dL_drop_21 : decode cL_drop 21 = .ok (.ireturn, 1) := by decide +kernel
theorem dL_drop_22 : decode cL_drop 22 = .ok (.iconst 0, 1) := by decide +kernel
theorem dL_drop_23 : decode cL_drop 23 = .ok (.ireturn, 1) := by decide +kernel
theorem dX11_drop_0 : decode cX11_drop 0 = .ok (.aload_n 0, 1) := by decide +kernel
theorem dX11_drop_1 : decode cX11_drop 1 = .ok (.iload_n 1, 1) := by decide +kernel
theorem dX11_drop_2 : decode cX11_drop 2 = .ok (.invokevirtual 140, 3) := by decide +kernel
theorem dX11_drop_5 : decode cX11_drop 5 = .ok (.astore_n 2, 1) := by decide +kernel
theorem dX11_drop_6 : decode cX11_drop 6 = .ok (.aload_n 2, 1) := by decide +kernel
theorem dX11_drop_7 : decode cX11_drop 7 = .ok (.invokevirtual 184, 3) := by decide +kernel
theorem dX11_drop_10 : decode cX11_drop 10 = .ok (.istore_n 3, 1) := by decide +kernel
theorem dX11_drop_11 : decode cX11_drop 11 = .ok (.aload_n 2, 1) := by decide +kernel
theorem dX11_drop_12 : decode cX11_drop 12 = .ok (.invokevirtual 165, 3) := by decide +kernel
theorem dX11_drop_15 : decode cX11_drop 15 = .ok (.iload_n 3, 1) := by decide +kernel
theorem dX11_drop_16 : decode cX11_drop 16 = .ok (.ireturn, 1) := by decide +kernel
theorem dX12_drop_0 : decode cX12_drop 0 = .ok (.aload_n 0, 1) := by decide +kernel
theorem dX12_drop_1 : decode cX12_drop 1 = .ok (.iconst 0, 1) := by decide +kernel
theorem dX12_drop_2 : decode cX12_drop 2 = .ok (.putfield 271, 3) := by decide +kernel
theorem dX12_drop_5 : decode cX12_drop 5 = .ok (.aload_n 0, 1) := by decide +kernel
theorem dX12_drop_6 : decode cX12_drop 6 = .ok (.iload_n 1, 1) := by decide +kernel
theorem dX12_drop_7 : decode cX12_drop 7 = .ok (.invokestatic 440, 3) := by decide +kernel
theorem dX12_drop_10 : decode cX12_drop 10 = .ok (.ifCond .ne 7, 3) := by decide +kernel
theorem dX12_drop_13 : decode cX12_drop 13 = .ok (.iconst 1, 1) := by decide +kernel
theorem dX12_drop_14 : decode cX12_drop 14 = .ok (.goto 4, 3) := by decide +kernel
theorem dX12_drop_17 : decode cX12_drop 17 = .ok (.iconst 0, 1) := by decide +kernel
theorem dX12_drop_18 : decode cX12_drop 18 = .ok (.iconst 1, 1) := by decide +kernel
theorem dX12_drop_19 : decode cX12_drop 19 = .ok (.invokevirtual 277, 3) := by decide +kernel
theorem dX12_drop_22 : decode cX12_drop 22 = .ok (.ifCond .eq 5, 3) := by decide +kernel
theorem dX12_drop_25 : decode cX12_drop 25 = .ok (.iconst 0, 1) := by decide +kernel
theorem dX12_drop_26 : decode cX12_drop 26 = .ok (.ireturn, 1) := by decide +kernel
theorem dX12_drop_27 : decode cX12_drop 27 = .ok (.aload_n 0, 1) := by decide +kernel
theorem dX12_drop_28 : decode cX12_drop 28 = .ok (.iload_n 1, 1) := by decide +kernel
theorem dX12_drop_29 : decode cX12_drop 29 = .ok (.invokevirtual 545, 3) := by decide +kernel
theorem dX12_drop_32 : decode cX12_drop 32 = .ok (.istore_n 2, 1) := by decide +kernel
theorem dX12_drop_33 : decode cX12_drop 33 = .ok (.aload_n 0, 1) := by decide +kernel
theorem dX12_drop_34 : decode cX12_drop 34 = .ok (.iload_n 1, 1) := by decide +kernel
theorem dX12_drop_35 : decode cX12_drop 35 = .ok (.invokevirtual 358, 3) := by decide +kernel
theorem dX12_drop_38 : decode cX12_drop 38 = .ok (.iload_n 2, 1) := by decide +kernel
theorem dX12_drop_39 : decode cX12_drop 39 = .ok (.ireturn, 1) := by decide +kernel
theorem dX6_clear_0 : decode cX6_clear 0 = .ok (.aload_n 0, 1) := by decide +kernel
theorem dX6_clear_1 : decode cX6_clear 1 = .ok (.iconst 0, 1) := by decide +kernel
theorem dX6_clear_2 : decode cX6_clear 2 = .ok (.putfield 21, 3) := by decide +kernel
theorem dX6_clear_5 : decode cX6_clear 5 = .ok (.aload_n 0, 1) := by decide +kernel
theorem dX6_clear_6 : decode cX6_clear 6 = .ok (.iconst 0, 1) := by decide +kernel
theorem dX6_clear_7 : decode cX6_clear 7 = .ok (.putfield 25, 3) := by decide +kernel
theorem dX6_clear_10 : decode cX6_clear 10 = .ok (.return_, 1) := by decide +kernel
theorem dX12_clear_0 : decode cX12_clear 0 = .ok (.aload_n 0, 1) := by decide +kernel
theorem dX12_clear_1 : decode cX12_clear 1 = .ok (.getfield 18, 3) := by decide +kernel
theorem dX12_clear_4 : decode cX12_clear 4 = .ok (.iload_n 1, 1) := by decide +kernel
theorem dX12_clear_5 : decode cX12_clear 5 = .ok (.iconst 0, 1) := by decide +kernel
theorem dX12_clear_6 : decode cX12_clear 6 = .ok (.iastore, 1) := by decide +kernel
theorem dX12_clear_7 : decode cX12_clear 7 = .ok (.aload_n 0, 1) := by decide +kernel
theorem dX12_clear_8 : decode cX12_clear 8 = .ok (.getfield 26, 3) := by decide +kernel
theorem dX12_clear_11 : decode cX12_clear 11 = .ok (.iload_n 1, 1) := by decide +kernel
theorem dX12_clear_12 : decode cX12_clear 12 = .ok (.iconst 0, 1) := by decide +kernel
theorem dX12_clear_13 : decode cX12_clear 13 = .ok (.iastore, 1) := by decide +kernel
theorem dX12_clear_14 : decode cX12_clear 14 = .ok (.return_, 1) := by decide +kernel
theorem dL_same_0 : decode cL_same 0 = .ok (.aload_n 3, 1) := by decide +kernel
theorem dL_same_1 : decode cL_same 1 = .ok (.iconst 0, 1) := by decide +kernel
theorem dL_same_2 : decode cL_same 2 = .ok (.aload_n 0, 1) := by decide +kernel
theorem dL_same_3 : decode cL_same 3 = .ok (.iload_n 1, 1) := by decide +kernel
theorem dL_same_4 : decode cL_same 4 = .ok (.iload_n 2, 1) := by decide +kernel
theorem dL_same_5 : decode cL_same 5 = .ok (.invokevirtual 49, 3) := by decide +kernel
theorem dL_same_8 : decode cL_same 8 = .ok (.ifCond .eq 7, 3) := by decide +kernel
theorem dL_same_11 : decode cL_same 11 = .ok (.lconst 1, 1) := by decide +kernel
theorem dL_same_12 : decode cL_same 12 = .ok (.goto 4, 3) := by decide +kernel
theorem dL_same_16 : decode cL_same 16 = .ok (.lastore, 1) := by decide +kernel
theorem dL_same_17 : decode cL_same 17 = .ok (.goto 7, 3) := by decide +kernel
theorem dL_same_20 : decode cL_same 20 = .ok (.astore 4, 2) := by decide +kernel
theorem dL_same_22 : decode cL_same 22 = .ok (.iconst 1, 1) := by decide +kernel
theorem dL_same_23 : decode cL_same 23 = .ok (.ireturn, 1) := by decide +kernel
theorem dL_same_24 : decode cL_same 24 = .ok (.iconst 0, 1) := by decide +kernel
theorem dL_same_25 : decode cL_same 25 = .ok (.ireturn, 1) := by decide +kernel
theorem dX11_same_0 : decode cX11_same 0 = .ok (.aload_n 0, 1) := by decide +kernel
theorem dX11_same_1 : decode cX11_same 1 = .ok (.iload_n 1, 1) := by decide +kernel
theorem dX11_same_2 : decode cX11_same 2 = .ok (.invokevirtual 140, 3) := by decide +kernel
theorem dX11_same_5 : decode cX11_same 5 = .ok (.astore_n 3, 1) := by decide +kernel
theorem dX11_same_6 : decode cX11_same 6 = .ok (.aload_n 0, 1) := by decide +kernel
theorem dX11_same_7 : decode cX11_same 7 = .ok (.iload_n 2, 1) := by decide +kernel
theorem dX11_same_8 : decode cX11_same 8 = .ok (.invokevirtual 140, 3) := by decide +kernel
theorem dX11_same_11 : decode cX11_same 11 = .ok (.astore 4, 2) := by decide +kernel
theorem dX11_same_13 : decode cX11_same 13 = .ok (.aload_n 3, 1) := by decide +kernel
theorem dX11_same_14 : decode cX11_same 14 = .ok (.aload 4, 2) := by decide +kernel
theorem dX11_same_16 : decode cX11_same 16 = .ok (.invokevirtual 191, 3) := by decide +kernel
theorem dX11_same_19 : decode cX11_same 19 = .ok (.ireturn, 1) := by decide +kernel
theorem dX12_same_0 : decode cX12_same 0 = .ok (.aload_n 0, 1) := by decide +kernel
theorem dX12_same_1 : decode cX12_same 1 = .ok (.iconst 0, 1) := by decide +kernel
theorem dX12_same_2 : decode cX12_same 2 = .ok (.putfield 271, 3) := by decide +kernel
theorem dX12_same_5 : decode cX12_same 5 = .ok (.aload_n 0, 1) := by decide +kernel
theorem dX12_same_6 : decode cX12_same 6 = .ok (.iload_n 1, 1) := by decide +kernel
theorem dX12_same_7 : decode cX12_same 7 = .ok (.invokestatic 440, 3) := by decide +kernel
theorem dX12_same_10 : decode cX12_same 10 = .ok (.ifCond .eq 10, 3) := by decide +kernel
theorem dX12_same_13 : decode cX12_same 13 = .ok (.iload_n 2, 1) := by decide +kernel
theorem dX12_same_14 : decode cX12_same 14 = .ok (.invokestatic 440, 3) := by decide +kernel
theorem dX12_same_17 : decode cX12_same 17 = .ok (.ifCond .ne 7, 3) := by decide +kernel
theorem dX12_same_20 : decode cX12_same 20 = .ok (.iconst 1, 1) := by decide +kernel
theorem dX12_same_21 : decode cX12_same 21 = .ok (.goto 4, 3) := by decide +kernel
theorem dX12_same_24 : decode cX12_same 24 = .ok (.iconst 0, 1) := by decide +kernel
theorem dX12_same_25 : decode cX12_same 25 = .ok (.iconst 1, 1) := by decide +kernel
theorem dX12_same_26 : decode cX12_same 26 = .ok (.invokevirtual 277, 3) := by decide +kernel
theorem dX12_same_29 : decode cX12_same 29 = .ok (.ifCond .eq 5, 3) := by decide +kernel
theorem dX12_same_32 : decode cX12_same 32 = .ok (.iconst 0, 1) := by decide +kernel
theorem dX12_same_33 : decode cX12_same 33 = .ok (.ireturn, 1) := by decide +kernel
theorem dX12_same_34 : decode cX12_same 34 = .ok (.aload_n 0, 1) := by decide +kernel
theorem dX12_same_35 : decode cX12_same 35 = .ok (.getfield 18, 3) := by decide +kernel
theorem dX12_same_38 : decode cX12_same 38 = .ok (.iload_n 1, 1) := by decide +kernel
theorem dX12_same_39 : decode cX12_same 39 = .ok (.iaload, 1) := by decide +kernel
theorem dX12_same_40 : decode cX12_same 40 = .ok (.aload_n 0, 1) := by decide +kernel
theorem dX12_same_41 : decode cX12_same 41 = .ok (.getfield 18, 3) := by decide +kernel
theorem dX12_same_44 : decode cX12_same 44 = .ok (.iload_n 2, 1) := by decide +kernel
theorem dX12_same_45 : decode cX12_same 45 = .ok (.iaload, 1) := by decide +kernel
theorem dX12_same_46 : decode cX12_same 46 = .ok (.if_icmp .ne 22, 3) := by decide +kernel
theorem dX12_same_49 : decode cX12_same 49 = .ok (.aload_n 0, 1) := by decide +kernel
theorem dX12_same_50 : decode cX12_same 50 = .ok (.getfield 26, 3) := by decide +kernel
theorem dX12_same_53 : decode cX12_same 53 = .ok (.iload_n 1, 1) := by decide +kernel
theorem dX12_same_54 : decode cX12_same 54 = .ok (.iaload, 1) := by decide +kernel
theorem dX12_same_55 : decode cX12_same 55 = .ok (.aload_n 0, 1) := by decide +kernel
theorem dX12_same_56 : decode cX12_same 56 = .ok (.getfield 26, 3) := by decide +kernel
theorem dX12_same_59 : decode cX12_same 59 = .ok (.iload_n 2, 1) := by decide +kernel
theorem dX12_same_60 : decode cX12_same 60 = .ok (.iaload, 1) := by decide +kernel
theorem dX12_same_61 : decode cX12_same 61 = .ok (.if_icmp .ne 7, 3) := by decide +kernel
theorem dX12_same_64 : decode cX12_same 64 = .ok (.iconst 1, 1) := by decide +kernel
theorem dX12_same_65 : decode cX12_same 65 = .ok (.goto 4, 3) := by decide +kernel
theorem dX12_same_69 : decode cX12_same 69 = .ok (.istore_n 3, 1) := by decide +kernel
theorem dX12_same_70 : decode cX12_same 70 = .ok (.iconst 0, 1) := by decide +kernel
theorem dX12_same_71 : decode cX12_same 71 = .ok (.istore 4, 2) := by decide +kernel
theorem dX12_same_73 : decode cX12_same 73 = .ok (.iload_n 3, 1) := by decide +kernel
theorem dX12_same_74 : decode cX12_same 74 = .ok (.ifCond .eq 55, 3) := by decide +kernel
theorem dX12_same_77 : decode cX12_same 77 = .ok (.iload 4, 2) := by decide +kernel
theorem dX12_same_79 : decode cX12_same 79 = .ok (.aload_n 0, 1) := by decide +kernel
theorem dX12_same_80 : decode cX12_same 80 = .ok (.getfield 18, 3) := by decide +kernel
theorem dX12_same_83 : decode cX12_same 83 = .ok (.iload_n 1, 1) := by decide +kernel
theorem dX12_same_84 : decode cX12_same 84 = .ok (.iaload, 1) := by decide +kernel
theorem dX12_same_85 : decode cX12_same 85 = .ok (.if_icmp .ge 44, 3) := by decide +kernel
theorem dX12_same_129 : decode cX12_same 129 = .ok (.iconst 0, 1) := by decide +kernel
theorem dX12_same_130 : decode cX12_same 130 = .ok (.istore 4, 2) := by decide +kernel
theorem dX12_same_132 : decode cX12_same 132 = .ok (.iload_n 3, 1) := by decide +kernel
theorem dX12_same_133 : decode cX12_same 133 = .ok (.ifCond .eq 84, 3) := by decide +kernel
theorem dX12_same_136 : decode cX12_same 136 = .ok (.iload 4, 2) := by decide +kernel
theorem dX12_same_138 : decode cX12_same 138 = .ok (.aload_n 0, 1) := by decide +kernel
theorem dX12_same_139 : decode cX12_same 139 = .ok (.getfield 26, 3) := by decide +kernel
theorem dX12_same_142 : decode cX12_same 142 = .ok (.iload_n 1, 1) := by decide +kernel
theorem dX12_same_143 : decode cX12_same 143 = .ok (.iaload, 1) := by decide +kernel
theorem dX12_same_144 : decode cX12_same 144 = .ok (.if_icmp .ge 73, 3) := by decide +kernel
theorem dX12_same_217 : decode cX12_same 217 = .ok (.iload_n 3, 1) := by decide +kernel
theorem dX12_same_218 : decode cX12_same 218 = .ok (.ireturn, 1) := by decide +kernel
theorem dX6_isLike_0 : decode cX6_isLike 0 = .ok (.aload_n 0, 1) := by decide +kernel
theorem dX6_isLike_1 : decode cX6_isLike 1 = .ok (.getfield 21, 3) := by decide +kernel
theorem dX6_isLike_4 : decode cX6_isLike 4 = .ok (.aload_n 1, 1) := by decide +kernel
theorem dX6_isLike_5 : decode cX6_isLike 5 = .ok (.getfield 21, 3) := by decide +kernel
theorem dX6_isLike_8 : decode cX6_isLike 8 = .ok (.if_icmp .ne 14, 3) := by decide +kernel
theorem dX6_isLike_11 : decode cX6_isLike 11 = .ok (.aload_n 0, 1) := by decide +kernel
theorem dX6_isLike_12 : decode cX6_isLike 12 = .ok (.getfield 25, 3) := by decide +kernel
theorem dX6_isLike_15 : decode cX6_isLike 15 = .ok (.aload_n 1, 1) := by decide +kernel
theorem dX6_isLike_16 : decode cX6_isLike 16 = .ok (.getfield 25, 3) := by decide +kernel
theorem dX6_isLike_19 : decode cX6_isLike 19 = .ok (.if_icmp .eq 5, 3) := by decide +kernel
theorem dX6_isLike_24 : decode cX6_isLike 24 = .ok (.iconst 0, 1) := by decide +kernel
theorem dX6_isLike_25 : decode cX6_isLike 25 = .ok (.istore_n 2, 1) := by decide +kernel
theorem dX6_isLike_26 : decode cX6_isLike 26 = .ok (.iload_n 2, 1) := by decide +kernel
theorem dX6_isLike_27 : decode cX6_isLike 27 = .ok (.aload_n 0, 1) := by decide +kernel
theorem dX6_isLike_28 : decode cX6_isLike 28 = .ok (.getfield 21, 3) := by decide +kernel
theorem dX6_isLike_31 : decode cX6_isLike 31 = .ok (.if_icmp .ge 26, 3) := by decide +kernel
theorem dX6_isLike_57 : decode cX6_isLike 57 = .ok (.iconst 0, 1) := by decide +kernel
theorem dX6_isLike_58 : decode cX6_isLike 58 = .ok (.istore_n 2, 1) := by decide +kernel
theorem dX6_isLike_59 : decode cX6_isLike 59 = .ok (.iload_n 2, 1) := by decide +kernel
theorem dX6_isLike_60 : decode cX6_isLike 60 = .ok (.aload_n 0, 1) := by decide +kernel
theorem dX6_isLike_61 : decode cX6_isLike 61 = .ok (.getfield 25, 3) := by decide +kernel
theorem dX6_isLike_64 : decode cX6_isLike 64 = .ok (.if_icmp .ge 41, 3) := by decide +kernel
theorem dX6_isLike_105 : decode cX6_isLike 105 = .ok (.iconst 1, 1) := by decide +kernel
theorem dX6_isLike_106 : decode cX6_isLike 106 = .ok (.ireturn, 1) := by decide +kernel
theorem dL_copy_0 : decode cL_copy 0 = .ok (.aload_n 3, 1) := by decide +kernel
theorem dL_copy_1 : decode cL_copy 1 = .ok (.iconst 0, 1) := by decide +kernel
theorem dL_copy_2 : decode cL_copy 2 = .ok (.aload_n 0, 1) := by decide +kernel
theorem dL_copy_3 : decode cL_copy 3 = .ok (.iload_n 1, 1) := by decide +kernel
theorem dL_copy_4 : decode cL_copy 4 = .ok (.iload_n 2, 1) := by decide +kernel
theorem dL_copy_5 : decode cL_copy 5 = .ok (.invokevirtual 42, 3) := by decide +kernel
theorem dL_copy_13 : decode cL_copy 13 = .ok (.astore 4, 2) := by decide +kernel
theorem dL_copy_15 : decode cL_copy 15 = .ok (.iconst 1, 1) := by decide +kernel
theorem dL_copy_16 : decode cL_copy 16 = .ok (.ireturn, 1) := by decide +kernel
theorem dL_copy_17 : decode cL_copy 17 = .ok (.astore 4, 2) := by decide +kernel
theorem dL_copy_19 : decode cL_copy 19 = .ok (.iconst 2, 1) := by decide +kernel
theorem dL_copy_20 : decode cL_copy 20 = .ok (.ireturn, 1) := by decide +kernel
theorem dX11_copy_0 : decode cX11_copy 0 = .ok (.aload_n 0, 1) := by decide +kernel
theorem dX11_copy_1 : decode cX11_copy 1 = .ok (.iload_n 1, 1) := by decide +kernel
theorem dX11_copy_2 : decode cX11_copy 2 = .ok (.invokevirtual 140, 3) := by decide +kernel
theorem dX11_copy_5 : decode cX11_copy 5 = .ok (.astore_n 3, 1) := by decide +kernel
theorem dX11_copy_6 : decode cX11_copy 6 = .ok (.aload_n 0, 1) := by decide +kernel
theorem dX11_copy_7 : decode cX11_copy 7 = .ok (.iload_n 2, 1) := by decide +kernel
theorem dX11_copy_8 : decode cX11_copy 8 = .ok (.invokevirtual 140, 3) := by decide +kernel
theorem dX11_copy_11 : decode cX11_copy 11 = .ok (.astore 4, 2) := by decide +kernel
theorem dX11_copy_13 : decode cX11_copy 13 = .ok (.aload_n 3, 1) := by decide +kernel
theorem dX11_copy_14 : decode cX11_copy 14 = .ok (.invokestatic 172, 3) := by decide +kernel
theorem dX12_copy_0 : decode cX12_copy 0 = .ok (.aload_n 0, 1) := by decide +kernel
theorem dX12_copy_1 : decode cX12_copy 1 = .ok (.iconst 0, 1) := by decide +kernel
theorem dX12_copy_2 : decode cX12_copy 2 = .ok (.putfield 271, 3) := by decide +kernel
theorem dX12_copy_5 : decode cX12_copy 5 = .ok (.aload_n 0, 1) := by decide +kernel
theorem dX12_copy_6 : decode cX12_copy 6 = .ok (.iload_n 1, 1) := by decide +kernel
theorem dX12_copy_7 : decode cX12_copy 7 = .ok (.invokestatic 440, 3) := by decide +kernel
theorem dX12_copy_10 : decode cX12_copy 10 = .ok (.ifCond .eq 10, 3) := by decide +kernel
theorem dX12_copy_13 : decode cX12_copy 13 = .ok (.iload_n 2, 1) := by decide +kernel
theorem dX12_copy_14 : decode cX12_copy 14 = .ok (.invokestatic 440, 3) := by decide +kernel
theorem dX12_copy_17 : decode cX12_copy 17 = .ok (.ifCond .ne 7, 3) := by decide +kernel
theorem dX12_copy_20 : decode cX12_copy 20 = .ok (.iconst 1, 1) := by decide +kernel
theorem dX12_copy_21 : decode cX12_copy 21 = .ok (.goto 4, 3) := by decide +kernel
theorem dX12_copy_24 : decode cX12_copy 24 = .ok (.iconst 0, 1) := by decide +kernel
theorem dX12_copy_25 : decode cX12_copy 25 = .ok (.iconst 1, 1) := by decide +kernel
theorem dX12_copy_26 : decode cX12_copy 26 = .ok (.invokevirtual 277, 3) := by decide +kernel
theorem dX12_copy_29 : decode cX12_copy 29 = .ok (.ifCond .ne 24, 3) := by decide +kernel
theorem dX12_copy_32 : decode cX12_copy 32 = .ok (.aload_n 0, 1) := by decide +kernel
theorem dX12_copy_33 : decode cX12_copy 33 = .ok (.aload_n 0, 1) := by decide +kernel
theorem dX12_copy_34 : decode cX12_copy 34 = .ok (.iload_n 1, 1) := by decide +kernel
theorem dX12_copy_35 : decode cX12_copy 35 = .ok (.invokevirtual 545, 3) := by decide +kernel
theorem dX12_copy_38 : decode cX12_copy 38 = .ok (.ifCond .ne 7, 3) := by decide +kernel
theorem dX12_copy_41 : decode cX12_copy 41 = .ok (.iconst 1, 1) := by decide +kernel
theorem dX12_copy_42 : decode cX12_copy 42 = .ok (.goto 4, 3) := by decide +kernel
theorem dX12_copy_46 : decode cX12_copy 46 = .ok (.iconst 2, 1) := by decide +kernel
theorem dX12_copy_47 : decode cX12_copy 47 = .ok (.invokevirtual 277, 3) := by decide +kernel
theorem dX12_copy_50 : decode cX12_copy 50 = .ok (.ifCond .eq 5, 3) := by decide +kernel
theorem dX12_copy_53 : decode cX12_copy 53 = .ok (.iconst 0, 1) := by decide +kernel
theorem dX12_copy_54 : decode cX12_copy 54 = .ok (.ireturn, 1) := by decide +kernel
theorem dL_relate_0 : decode cL_relate 0 = .ok (.aload_n 3, 1) := by decide +kernel
theorem dL_relate_1 : decode cL_relate 1 = .ok (.iconst 0, 1) := by decide +kernel
theorem dL_relate_2 : decode cL_relate 2 = .ok (.aload_n 0, 1) := by decide +kernel
theorem dL_relate_3 : decode cL_relate 3 = .ok (.iload_n 1, 1) := by decide +kernel
theorem dL_relate_4 : decode cL_relate 4 = .ok (.iload_n 2, 1) := by decide +kernel
theorem dL_relate_5 : decode cL_relate 5 = .ok (.invokevirtual 65, 3) := by decide +kernel
theorem dL_relate_13 : decode cL_relate 13 = .ok (.astore 4, 2) := by decide +kernel
theorem dL_relate_15 : decode cL_relate 15 = .ok (.iconst 1, 1) := by decide +kernel
theorem dL_relate_16 : decode cL_relate 16 = .ok (.ireturn, 1) := by decide +kernel
theorem dL_relate_17 : decode cL_relate 17 = .ok (.astore 4, 2) := by decide +kernel
theorem dL_relate_19 : decode cL_relate 19 = .ok (.iconst 2, 1) := by decide +kernel
theorem dL_relate_20 : decode cL_relate 20 = .ok (.ireturn, 1) := by decide +kernel
theorem dX11_relate_0 : decode cX11_relate 0 = .ok (.aload_n 0, 1) := by decide +kernel
theorem dX11_relate_1 : decode cX11_relate 1 = .ok (.iconst 0, 1) := by decide +kernel
theorem dX11_relate_2 : decode cX11_relate 2 = .ok (.iload_n 1, 1) := by decide +kernel
theorem dX11_relate_3 : decode cX11_relate 3 = .ok (.iload_n 2, 1) := by decide +kernel
theorem dX11_relate_4 : decode cX11_relate 4 = .ok (.invokevirtual 254, 3) := by decide +kernel
theorem dX11_mustBeRelatable_0 : decode cX11_mustBeRelatable 0 = .ok (.aload_n 0, 1) := by decide +kernel
theorem dX11_mustBeRelatable_1 : decode cX11_mustBeRelatable 1 = .ok (.iload_n 2, 1) := by decide +kernel
theorem dX11_mustBeRelatable_2 : decode cX11_mustBeRelatable 2 = .ok (.invokevirtual 140, 3) := by decide +kernel
theorem dX11_mustBeRelatable_5 : decode cX11_mustBeRelatable 5 = .ok (.astore 4, 2) := by decide +kernel
theorem dX11_mustBeRelatable_7 : decode cX11_mustBeRelatable 7 = .ok (.aload_n 0, 1) := by decide +kernel
theorem dX11_mustBeRelatable_8 : decode cX11_mustBeRelatable 8 = .ok (.iload_n 3, 1) := by decide +kernel
theorem dX11_mustBeRelatable_9 : decode cX11_mustBeRelatable 9 = .ok (.invokevirtual 140, 3) := by decide +kernel
theorem dX11_mustBeRelatable_12 : decode cX11_mustBeRelatable 12 = .ok (.astore 5, 2) := by decide +kernel
theorem dX11_mustBeRelatable_14 : decode cX11_mustBeRelatable 14 = .ok (.aload 4, 2) := by decide +kernel
theorem dX11_mustBeRelatable_16 : decode cX11_mustBeRelatable 16 = .ok (.invokestatic 172, 3) := by decide +kernel
theorem dX12_relate_0 : decode cX12_relate 0 = .ok (.aload_n 0, 1) := by decide +kernel
theorem dX12_relate_1 : decode cX12_relate 1 = .ok (.iconst 0, 1) := by decide +kernel
theorem dX12_relate_2 : decode cX12_relate 2 = .ok (.putfield 271, 3) := by decide +kernel
theorem dX12_relate_5 : decode cX12_relate 5 = .ok (.aload_n 0, 1) := by decide +kernel
theorem dX12_relate_6 : decode cX12_relate 6 = .ok (.iload_n 1, 1) := by decide +kernel
theorem dX12_relate_7 : decode cX12_relate 7 = .ok (.invokestatic 440, 3) := by decide +kernel
theorem dX12_relate_10 : decode cX12_relate 10 = .ok (.ifCond .eq 10, 3) := by decide +kernel
theorem dX12_relate_13 : decode cX12_relate 13 = .ok (.iload_n 2, 1) := by decide +kernel
theorem dX12_relate_14 : decode cX12_relate 14 = .ok (.invokestatic 440, 3) := by decide +kernel
theorem dX12_relate_17 : decode cX12_relate 17 = .ok (.ifCond .ne 7, 3) := by decide +kernel
theorem dX12_relate_20 : decode cX12_relate 20 = .ok (.iconst 1, 1) := by decide +kernel
theorem dX12_relate_21 : decode cX12_relate 21 = .ok (.goto 4, 3) := by decide +kernel
theorem dX12_relate_24 : decode cX12_relate 24 = .ok (.iconst 0, 1) := by decide +kernel
theorem dX12_relate_25 : decode cX12_relate 25 = .ok (.iconst 1, 1) := by decide +kernel
theorem dX12_relate_26 : decode cX12_relate 26 = .ok (.invokevirtual 277, 3) := by decide +kernel
theorem dX12_relate_29 : decode cX12_relate 29 = .ok (.ifCond .ne 32, 3) := by decide +kernel
theorem dX12_relate_32 : decode cX12_relate 32 = .ok (.aload_n 0, 1) := by decide +kernel
theorem dX12_relate_33 : decode cX12_relate 33 = .ok (.aload_n 0, 1) := by decide +kernel
theorem dX12_relate_34 : decode cX12_relate 34 = .ok (.iload_n 1, 1) := by decide +kernel
theorem dX12_relate_35 : decode cX12_relate 35 = .ok (.invokevirtual 545, 3) := by decide +kernel
theorem dX12_relate_38 : decode cX12_relate 38 = .ok (.ifCond .eq 11, 3) := by decide +kernel
theorem dX12_relate_49 : decode cX12_relate 49 = .ok (.iconst 1, 1) := by decide +kernel
theorem dX12_relate_50 : decode cX12_relate 50 = .ok (.goto 4, 3) := by decide +kernel
theorem dX12_relate_54 : decode cX12_relate 54 = .ok (.iconst 2, 1) := by decide +kernel
theorem dX12_relate_55 : decode cX12_relate 55 = .ok (.invokevirtual 277, 3) := by decide +kernel
theorem dX12_relate_58 : decode cX12_relate 58 = .ok (.ifCond .eq 5, 3) := by decide +kernel
theorem dX12_relate_61 : decode cX12_relate 61 = .ok (.iconst 0, 1) := by decide +kernel
theorem dX12_relate_62 : decode cX12_relate 62 = .ok (.ireturn, 1) := by decide +kernel
theorem dL_law_533 : decode cL_law 533 = .ok (.aload_n 1, 1) := by decide +kernel
theorem dL_law_534 : decode cL_law 534 = .ok (.aload_n 0, 1) := by decide +kernel
theorem dL_law_535 : decode cL_law 535 = .ok (.iload 4, 2) := by decide +kernel
theorem dL_law_537 : decode cL_law 537 = .ok (.iconst 1, 1) := by decide +kernel
theorem dL_law_538 : decode cL_law 538 = .ok (.iadd, 1) := by decide +kernel
theorem dL_law_539 : decode cL_law 539 = .ok (.iaload, 1) := by decide +kernel
theorem dL_law_540 : decode cL_law 540 = .ok (.aload_n 3, 1) := by decide +kernel
theorem dL_law_541 : decode cL_law 541 = .ok (.invokestatic 157, 3) := by decide +kernel
theorem dL_law_544 : decode cL_law 544 = .ok (.istore 5, 2) := by decide +kernel
theorem dL_law_546 : decode cL_law 546 = .ok (.aload_n 2, 1) := by decide +kernel
theorem dL_law_547 : decode cL_law 547 = .ok (.aload_n 0, 1) := by decide +kernel
theorem dL_law_548 : decode cL_law 548 = .ok (.iload 4, 2) := by decide +kernel
theorem dL_law_550 : decode cL_law 550 = .ok (.iconst 1, 1) := by decide +kernel
theorem dL_law_551 : decode cL_law 551 = .ok (.iadd, 1) := by decide +kernel
theorem dL_law_552 : decode cL_law 552 = .ok (.iaload, 1) := by decide +kernel
theorem dL_law_553 : decode cL_law 553 = .ok (.invokevirtual 159, 3) := by decide +kernel
theorem dL_law_556 : decode cL_law 556 = .ok (.istore 6, 2) := by decide +kernel
theorem dL_law_558 : decode cL_law 558 = .ok (.aload_n 2, 1) := by decide +kernel
theorem dL_law_559 : decode cL_law 559 = .ok (.invokevirtual 136, 3) := by decide +kernel
theorem dL_law_562 : decode cL_law 562 = .ok (.iload 5, 2) := by decide +kernel
theorem dL_law_564 : decode cL_law 564 = .ok (.if_icmp .eq 5, 3) := by decide +kernel
theorem dL_law_569 : decode cL_law 569 = .ok (.iload 5, 2) := by decide +kernel
theorem dL_law_571 : decode cL_law 571 = .ok (.ifCond .ne 15, 3) := by decide +kernel
theorem dL_law_586 : decode cL_law 586 = .ok (.goto 1863, 3) := by decide +kernel
theorem dL_law_589 : decode cL_law 589 = .ok (.aload_n 1, 1) := by decide +kernel
theorem dL_law_590 : decode cL_law 590 = .ok (.aload_n 0, 1) := by decide +kernel
theorem dL_law_591 : decode cL_law 591 = .ok (.iload 4, 2) := by decide +kernel
theorem dL_law_593 : decode cL_law 593 = .ok (.iconst 1, 1) := by decide +kernel
theorem dL_law_594 : decode cL_law 594 = .ok (.iadd, 1) := by decide +kernel
theorem dL_law_595 : decode cL_law 595 = .ok (.iaload, 1) := by decide +kernel
theorem dL_law_596 : decode cL_law 596 = .ok (.aload_n 0, 1) := by decide +kernel
theorem dL_law_597 : decode cL_law 597 = .ok (.iload 4, 2) := by decide +kernel
theorem dL_law_599 : decode cL_law 599 = .ok (.iconst 2, 1) := by decide +kernel
theorem dL_law_600 : decode cL_law 600 = .ok (.iadd, 1) := by decide +kernel
theorem dL_law_601 : decode cL_law 601 = .ok (.iaload, 1) := by decide +kernel
theorem dL_law_602 : decode cL_law 602 = .ok (.aload_n 3, 1) := by decide +kernel
theorem dL_law_603 : decode cL_law 603 = .ok (.invokestatic 160, 3) := by decide +kernel
theorem dL_law_606 : decode cL_law 606 = .ok (.istore 5, 2) := by decide +kernel
theorem dL_law_608 : decode cL_law 608 = .ok (.aload_n 2, 1) := by decide +kernel
theorem dL_law_609 : decode cL_law 609 = .ok (.aload_n 0, 1) := by decide +kernel
theorem dL_law_610 : decode cL_law 610 = .ok (.iload 4, 2) := by decide +kernel
theorem dL_law_612 : decode cL_law 612 = .ok (.iconst 1, 1) := by decide +kernel
theorem dL_law_613 : decode cL_law 613 = .ok (.iadd, 1) := by decide +kernel
theorem dL_law_614 : decode cL_law 614 = .ok (.iaload, 1) := by decide +kernel
theorem dL_law_615 : decode cL_law 615 = .ok (.aload_n 0, 1) := by decide +kernel
theorem dL_law_616 : decode cL_law 616 = .ok (.iload 4, 2) := by decide +kernel
theorem dL_law_618 : decode cL_law 618 = .ok (.iconst 2, 1) := by decide +kernel
theorem dL_law_619 : decode cL_law 619 = .ok (.iadd, 1) := by decide +kernel
theorem dL_law_620 : decode cL_law 620 = .ok (.iaload, 1) := by decide +kernel
theorem dL_law_621 : decode cL_law 621 = .ok (.invokevirtual 163, 3) := by decide +kernel
theorem dL_law_624 : decode cL_law 624 = .ok (.istore 6, 2) := by decide +kernel
theorem dL_law_626 : decode cL_law 626 = .ok (.aload_n 2, 1) := by decide +kernel
theorem dL_law_627 : decode cL_law 627 = .ok (.invokevirtual 136, 3) := by decide +kernel
theorem dL_law_630 : decode cL_law 630 = .ok (.iload 5, 2) := by decide +kernel
theorem dL_law_632 : decode cL_law 632 = .ok (.if_icmp .eq 5, 3) := by decide +kernel
theorem dL_law_637 : decode cL_law 637 = .ok (.iload 5, 2) := by decide +kernel
theorem dL_law_639 : decode cL_law 639 = .ok (.ifCond .ne 15, 3) := by decide +kernel
theorem dL_law_654 : decode cL_law 654 = .ok (.goto 1795, 3) := by decide +kernel
theorem dL_law_713 : decode cL_law 713 = .ok (.aload_n 1, 1) := by decide +kernel
theorem dL_law_714 : decode cL_law 714 = .ok (.aload_n 0, 1) := by decide +kernel
theorem dL_law_715 : decode cL_law 715 = .ok (.iload 4, 2) := by decide +kernel
theorem dL_law_717 : decode cL_law 717 = .ok (.iconst 1, 1) := by decide +kernel
theorem dL_law_718 : decode cL_law 718 = .ok (.iadd, 1) := by decide +kernel
theorem dL_law_719 : decode cL_law 719 = .ok (.iaload, 1) := by decide +kernel
theorem dL_law_720 : decode cL_law 720 = .ok (.aload_n 0, 1) := by decide +kernel
theorem dL_law_721 : decode cL_law 721 = .ok (.iload 4, 2) := by decide +kernel
theorem dL_law_723 : decode cL_law 723 = .ok (.iconst 2, 1) := by decide +kernel
theorem dL_law_724 : decode cL_law 724 = .ok (.iadd, 1) := by decide +kernel
theorem dL_law_725 : decode cL_law 725 = .ok (.iaload, 1) := by decide +kernel
theorem dL_law_726 : decode cL_law 726 = .ok (.aload_n 3, 1) := by decide +kernel
theorem dL_law_727 : decode cL_law 727 = .ok (.invokestatic 167, 3) := by decide +kernel
theorem dL_law_730 : decode cL_law 730 = .ok (.istore 5, 2) := by decide +kernel
theorem dL_law_732 : decode cL_law 732 = .ok (.aload_n 2, 1) := by decide +kernel
theorem dL_law_733 : decode cL_law 733 = .ok (.aload_n 0, 1) := by decide +kernel
theorem dL_law_734 : decode cL_law 734 = .ok (.iload 4, 2) := by decide +kernel
theorem dL_law_736 : decode cL_law 736 = .ok (.iconst 1, 1) := by decide +kernel
theorem dL_law_737 : decode cL_law 737 = .ok (.iadd, 1) := by decide +kernel
theorem dL_law_738 : decode cL_law 738 = .ok (.iaload, 1) := by decide +kernel
theorem dL_law_739 : decode cL_law 739 = .ok (.aload_n 0, 1) := by decide +kernel
theorem dL_law_740 : decode cL_law 740 = .ok (.iload 4, 2) := by decide +kernel
theorem dL_law_742 : decode cL_law 742 = .ok (.iconst 2, 1) := by decide +kernel
theorem dL_law_743 : decode cL_law 743 = .ok (.iadd, 1) := by decide +kernel
theorem dL_law_744 : decode cL_law 744 = .ok (.iaload, 1) := by decide +kernel
theorem dL_law_745 : decode cL_law 745 = .ok (.invokevirtual 169, 3) := by decide +kernel
theorem dL_law_748 : decode cL_law 748 = .ok (.istore 6, 2) := by decide +kernel
theorem dL_law_750 : decode cL_law 750 = .ok (.aload_n 2, 1) := by decide +kernel
theorem dL_law_751 : decode cL_law 751 = .ok (.invokevirtual 136, 3) := by decide +kernel
theorem dL_law_754 : decode cL_law 754 = .ok (.iload 5, 2) := by decide +kernel
theorem dL_law_756 : decode cL_law 756 = .ok (.if_icmp .eq 5, 3) := by decide +kernel
theorem dL_law_761 : decode cL_law 761 = .ok (.iload 5, 2) := by decide +kernel
theorem dL_law_763 : decode cL_law 763 = .ok (.ifCond .ne 15, 3) := by decide +kernel
theorem dL_law_778 : decode cL_law 778 = .ok (.goto 1671, 3) := by decide +kernel
theorem dL_law_781 : decode cL_law 781 = .ok (.aload_n 1, 1) := by decide +kernel
theorem dL_law_782 : decode cL_law 782 = .ok (.aload_n 0, 1) := by decide +kernel
theorem dL_law_783 : decode cL_law 783 = .ok (.iload 4, 2) := by decide +kernel
theorem dL_law_785 : decode cL_law 785 = .ok (.iconst 1, 1) := by decide +kernel
theorem dL_law_786 : decode cL_law 786 = .ok (.iadd, 1) := by decide +kernel
theorem dL_law_787 : decode cL_law 787 = .ok (.iaload, 1) := by decide +kernel
theorem dL_law_788 : decode cL_law 788 = .ok (.aload_n 3, 1) := by decide +kernel
theorem dL_law_789 : decode cL_law 789 = .ok (.invokestatic 170, 3) := by decide +kernel
theorem dL_law_792 : decode cL_law 792 = .ok (.istore 5, 2) := by decide +kernel
theorem dL_law_794 : decode cL_law 794 = .ok (.aload_n 2, 1) := by decide +kernel
theorem dL_law_795 : decode cL_law 795 = .ok (.aload_n 0, 1) := by decide +kernel
theorem dL_law_796 : decode cL_law 796 = .ok (.iload 4, 2) := by decide +kernel
theorem dL_law_798 : decode cL_law 798 = .ok (.iconst 1, 1) := by decide +kernel
theorem dL_law_799 : decode cL_law 799 = .ok (.iadd, 1) := by decide +kernel
theorem dL_law_800 : decode cL_law 800 = .ok (.iaload, 1) := by decide +kernel
theorem dL_law_801 : decode cL_law 801 = .ok (.invokevirtual 172, 3) := by decide +kernel
theorem dL_law_804 : decode cL_law 804 = .ok (.istore 6, 2) := by decide +kernel
theorem dL_law_806 : decode cL_law 806 = .ok (.aload_n 2, 1) := by decide +kernel
theorem dL_law_807 : decode cL_law 807 = .ok (.invokevirtual 136, 3) := by decide +kernel
theorem dL_law_810 : decode cL_law 810 = .ok (.iload 5, 2) := by decide +kernel
theorem dL_law_812 : decode cL_law 812 = .ok (.if_icmp .eq 5, 3) := by decide +kernel
theorem dL_law_817 : decode cL_law 817 = .ok (.iload 5, 2) := by decide +kernel
theorem dL_law_819 : decode cL_law 819 = .ok (.ifCond .ne 22, 3) := by decide +kernel
theorem dL_law_822 : decode cL_law 822 = .ok (.aload_n 3, 1) := by decide +kernel
theorem dL_law_823 : decode cL_law 823 = .ok (.iconst 0, 1) := by decide +kernel
theorem dL_law_824 : decode cL_law 824 = .ok (.laload, 1) := by decide +kernel
theorem dL_law_825 : decode cL_law 825 = .ok (.iload 6, 2) := by decide +kernel
theorem dL_law_827 : decode cL_law 827 = .ok (.ifCond .eq 7, 3) := by decide +kernel
theorem dL_law_834 : decode cL_law 834 = .ok (.lconst 0, 1) := by decide +kernel
theorem dL_law_835 : decode cL_law 835 = .ok (.lcmp, 1) := by decide +kernel
theorem dL_law_836 : decode cL_law 836 = .ok (.ifCond .eq 5, 3) := by decide +kernel
theorem dL_law_841 : decode cL_law 841 = .ok (.goto 1608, 3) := by decide +kernel
theorem dL_law_844 : decode cL_law 844 = .ok (.aload_n 1, 1) := by decide +kernel
theorem dL_law_845 : decode cL_law 845 = .ok (.aload_n 0, 1) := by decide +kernel
theorem dL_law_846 : decode cL_law 846 = .ok (.iload 4, 2) := by decide +kernel
theorem dL_law_848 : decode cL_law 848 = .ok (.iconst 1, 1) := by decide +kernel
theorem dL_law_849 : decode cL_law 849 = .ok (.iadd, 1) := by decide +kernel
theorem dL_law_850 : decode cL_law 850 = .ok (.iaload, 1) := by decide +kernel
theorem dL_law_851 : decode cL_law 851 = .ok (.aload_n 0, 1) := by decide +kernel
theorem dL_law_852 : decode cL_law 852 = .ok (.iload 4, 2) := by decide +kernel
theorem dL_law_854 : decode cL_law 854 = .ok (.iconst 2, 1) := by decide +kernel
theorem dL_law_855 : decode cL_law 855 = .ok (.iadd, 1) := by decide +kernel
theorem dL_law_856 : decode cL_law 856 = .ok (.iaload, 1) := by decide +kernel
theorem dL_law_857 : decode cL_law 857 = .ok (.aload_n 3, 1) := by decide +kernel
theorem dL_law_858 : decode cL_law 858 = .ok (.invokestatic 173, 3) := by decide +kernel
theorem dL_law_861 : decode cL_law 861 = .ok (.istore 5, 2) := by decide +kernel
theorem dL_law_863 : decode cL_law 863 = .ok (.aload_n 2, 1) := by decide +kernel
theorem dL_law_864 : decode cL_law 864 = .ok (.aload_n 0, 1) := by decide +kernel
theorem dL_law_865 : decode cL_law 865 = .ok (.iload 4, 2) := by decide +kernel
theorem dL_law_867 : decode cL_law 867 = .ok (.iconst 1, 1) := by decide +kernel
theorem dL_law_868 : decode cL_law 868 = .ok (.iadd, 1) := by decide +kernel
theorem dL_law_869 : decode cL_law 869 = .ok (.iaload, 1) := by decide +kernel
theorem dL_law_870 : decode cL_law 870 = .ok (.aload_n 0, 1) := by decide +kernel
theorem dL_law_871 : decode cL_law 871 = .ok (.iload 4, 2) := by decide +kernel
theorem dL_law_873 : decode cL_law 873 = .ok (.iconst 2, 1) := by decide +kernel
theorem dL_law_874 : decode cL_law 874 = .ok (.iadd, 1) := by decide +kernel
theorem dL_law_875 : decode cL_law 875 = .ok (.iaload, 1) := by decide +kernel
theorem dL_law_876 : decode cL_law 876 = .ok (.invokevirtual 175, 3) := by decide +kernel
theorem dL_law_879 : decode cL_law 879 = .ok (.istore 6, 2) := by decide +kernel
theorem dL_law_881 : decode cL_law 881 = .ok (.aload_n 2, 1) := by decide +kernel
theorem dL_law_882 : decode cL_law 882 = .ok (.invokevirtual 136, 3) := by decide +kernel
theorem dL_law_885 : decode cL_law 885 = .ok (.iload 5, 2) := by decide +kernel
theorem dL_law_887 : decode cL_law 887 = .ok (.if_icmp .eq 5, 3) := by decide +kernel
theorem dL_law_892 : decode cL_law 892 = .ok (.iload 5, 2) := by decide +kernel
theorem dL_law_894 : decode cL_law 894 = .ok (.ifCond .ne 22, 3) := by decide +kernel
theorem dL_law_897 : decode cL_law 897 = .ok (.aload_n 3, 1) := by decide +kernel
theorem dL_law_898 : decode cL_law 898 = .ok (.iconst 0, 1) := by decide +kernel
theorem dL_law_899 : decode cL_law 899 = .ok (.laload, 1) := by decide +kernel
theorem dL_law_900 : decode cL_law 900 = .ok (.iload 6, 2) := by decide +kernel
theorem dL_law_902 : decode cL_law 902 = .ok (.ifCond .eq 7, 3) := by decide +kernel
theorem dL_law_905 : decode cL_law 905 = .ok (.lconst 1, 1) := by decide +kernel
theorem dL_law_906 : decode cL_law 906 = .ok (.goto 4, 3) := by decide +kernel
theorem dL_law_910 : decode cL_law 910 = .ok (.lcmp, 1) := by decide +kernel
theorem dL_law_911 : decode cL_law 911 = .ok (.ifCond .eq 5, 3) := by decide +kernel
theorem dL_law_916 : decode cL_law 916 = .ok (.goto 1533, 3) := by decide +kernel
theorem dL_law_919 : decode cL_law 919 = .ok (.aload_n 1, 1) := by decide +kernel
theorem dL_law_920 : decode cL_law 920 = .ok (.aload_n 0, 1) := by decide +kernel
theorem dL_law_921 : decode cL_law 921 = .ok (.iload 4, 2) := by decide +kernel
theorem dL_law_923 : decode cL_law 923 = .ok (.iconst 1, 1) := by decide +kernel
theorem dL_law_924 : decode cL_law 924 = .ok (.iadd, 1) := by decide +kernel
theorem dL_law_925 : decode cL_law 925 = .ok (.iaload, 1) := by decide +kernel
theorem dL_law_926 : decode cL_law 926 = .ok (.aload_n 3, 1) := by decide +kernel
theorem dL_law_927 : decode cL_law 927 = .ok (.invokestatic 176, 3) := by decide +kernel
theorem dL_law_930 : decode cL_law 930 = .ok (.istore 5, 2) := by decide +kernel
theorem dL_law_932 : decode cL_law 932 = .ok (.aload_n 2, 1) := by decide +kernel
theorem dL_law_933 : decode cL_law 933 = .ok (.aload_n 0, 1) := by decide +kernel
theorem dL_law_934 : decode cL_law 934 = .ok (.iload 4, 2) := by decide +kernel
theorem dL_law_936 : decode cL_law 936 = .ok (.iconst 1, 1) := by decide +kernel
theorem dL_law_937 : decode cL_law 937 = .ok (.iadd, 1) := by decide +kernel
theorem dL_law_938 : decode cL_law 938 = .ok (.iaload, 1) := by decide +kernel
theorem dL_law_939 : decode cL_law 939 = .ok (.invokevirtual 178, 3) := by decide +kernel
theorem dL_law_942 : decode cL_law 942 = .ok (.istore 6, 2) := by decide +kernel
theorem dL_law_944 : decode cL_law 944 = .ok (.aload_n 2, 1) := by decide +kernel
theorem dL_law_945 : decode cL_law 945 = .ok (.invokevirtual 136, 3) := by decide +kernel
theorem dL_law_948 : decode cL_law 948 = .ok (.iload 5, 2) := by decide +kernel
theorem dL_law_950 : decode cL_law 950 = .ok (.if_icmp .eq 5, 3) := by decide +kernel
theorem dL_law_955 : decode cL_law 955 = .ok (.iload 5, 2) := by decide +kernel
theorem dL_law_957 : decode cL_law 957 = .ok (.ifCond .ne 15, 3) := by decide +kernel
theorem dL_law_972 : decode cL_law 972 = .ok (.goto 1477, 3) := by decide +kernel
theorem dL_law_1123 : decode cL_law 1123 = .ok (.aload_n 1, 1) := by decide +kernel
theorem dL_law_1124 : decode cL_law 1124 = .ok (.aload_n 0, 1) := by decide +kernel
theorem dL_law_1125 : decode cL_law 1125 = .ok (.iload 4, 2) := by decide +kernel
theorem dL_law_1127 : decode cL_law 1127 = .ok (.iconst 1, 1) := by decide +kernel
theorem dL_law_1128 : decode cL_law 1128 = .ok (.iadd, 1) := by decide +kernel
theorem dL_law_1129 : decode cL_law 1129 = .ok (.iaload, 1) := by decide +kernel
theorem dL_law_1130 : decode cL_law 1130 = .ok (.aload_n 0, 1) := by decide +kernel
theorem dL_law_1131 : decode cL_law 1131 = .ok (.iload 4, 2) := by decide +kernel
theorem dL_law_1133 : decode cL_law 1133 = .ok (.iconst 2, 1) := by decide +kernel
theorem dL_law_1134 : decode cL_law 1134 = .ok (.iadd, 1) := by decide +kernel
theorem dL_law_1135 : decode cL_law 1135 = .ok (.iaload, 1) := by decide +kernel
theorem dL_law_1136 : decode cL_law 1136 = .ok (.aload_n 3, 1) := by decide +kernel
theorem dL_law_1137 : decode cL_law 1137 = .ok (.invokestatic 186, 3) := by decide +kernel
theorem dL_law_1140 : decode cL_law 1140 = .ok (.istore 5, 2) := by decide +kernel
theorem dL_law_1142 : decode cL_law 1142 = .ok (.aload_n 2, 1) := by decide +kernel
theorem dL_law_1143 : decode cL_law 1143 = .ok (.aload_n 0, 1) := by decide +kernel
theorem dL_law_1144 : decode cL_law 1144 = .ok (.iload 4, 2) := by decide +kernel
theorem dL_law_1146 : decode cL_law 1146 = .ok (.iconst 1, 1) := by decide +kernel
theorem dL_law_1147 : decode cL_law 1147 = .ok (.iadd, 1) := by decide +kernel
theorem dL_law_1148 : decode cL_law 1148 = .ok (.iaload, 1) := by decide +kernel
theorem dL_law_1149 : decode cL_law 1149 = .ok (.aload_n 0, 1) := by decide +kernel
theorem dL_law_1150 : decode cL_law 1150 = .ok (.iload 4, 2) := by decide +kernel
theorem dL_law_1152 : decode cL_law 1152 = .ok (.iconst 2, 1) := by decide +kernel
theorem dL_law_1153 : decode cL_law 1153 = .ok (.iadd, 1) := by decide +kernel
theorem dL_law_1154 : decode cL_law 1154 = .ok (.iaload, 1) := by decide +kernel
theorem dL_law_1155 : decode cL_law 1155 = .ok (.invokevirtual 188, 3) := by decide +kernel
theorem dL_law_1158 : decode cL_law 1158 = .ok (.istore 6, 2) := by decide +kernel
theorem dL_law_1160 : decode cL_law 1160 = .ok (.aload_n 2, 1) := by decide +kernel
theorem dL_law_1161 : decode cL_law 1161 = .ok (.invokevirtual 136, 3) := by decide +kernel
theorem dL_law_1164 : decode cL_law 1164 = .ok (.iload 5, 2) := by decide +kernel
theorem dL_law_1166 : decode cL_law 1166 = .ok (.if_icmp .eq 5, 3) := by decide +kernel
theorem dL_law_1171 : decode cL_law 1171 = .ok (.iload 5, 2) := by decide +kernel
theorem dL_law_1173 : decode cL_law 1173 = .ok (.ifCond .ne 15, 3) := by decide +kernel
theorem dL_law_1188 : decode cL_law 1188 = .ok (.goto 1261, 3) := by decide +kernel
theorem dL_law_1629 : decode cL_law 1629 = .ok (.aload_n 1, 1) := by decide +kernel
theorem dL_law_1630 : decode cL_law 1630 = .ok (.aload_n 0, 1) := by decide +kernel
theorem dL_law_1631 : decode cL_law 1631 = .ok (.iload 4, 2) := by decide +kernel
theorem dL_law_1633 : decode cL_law 1633 = .ok (.iconst 1, 1) := by decide +kernel
theorem dL_law_1634 : decode cL_law 1634 = .ok (.iadd, 1) := by decide +kernel
theorem dL_law_1635 : decode cL_law 1635 = .ok (.iaload, 1) := by decide +kernel
theorem dL_law_1636 : decode cL_law 1636 = .ok (.aload_n 0, 1) := by decide +kernel
theorem dL_law_1637 : decode cL_law 1637 = .ok (.iload 4, 2) := by decide +kernel
theorem dL_law_1639 : decode cL_law 1639 = .ok (.iconst 2, 1) := by decide +kernel
theorem dL_law_1640 : decode cL_law 1640 = .ok (.iadd, 1) := by decide +kernel
theorem dL_law_1641 : decode cL_law 1641 = .ok (.iaload, 1) := by decide +kernel
theorem dL_law_1642 : decode cL_law 1642 = .ok (.aload_n 3, 1) := by decide +kernel
theorem dL_law_1643 : decode cL_law 1643 = .ok (.invokestatic 208, 3) := by decide +kernel
theorem dL_law_1646 : decode cL_law 1646 = .ok (.istore 5, 2) := by decide +kernel
theorem dL_law_1648 : decode cL_law 1648 = .ok (.aload_n 2, 1) := by decide +kernel
theorem dL_law_1649 : decode cL_law 1649 = .ok (.aload_n 0, 1) := by decide +kernel
theorem dL_law_1650 : decode cL_law 1650 = .ok (.iload 4, 2) := by decide +kernel
theorem dL_law_1652 : decode cL_law 1652 = .ok (.iconst 1, 1) := by decide +kernel
theorem dL_law_1653 : decode cL_law 1653 = .ok (.iadd, 1) := by decide +kernel
theorem dL_law_1654 : decode cL_law 1654 = .ok (.iaload, 1) := by decide +kernel
theorem dL_law_1655 : decode cL_law 1655 = .ok (.aload_n 0, 1) := by decide +kernel
theorem dL_law_1656 : decode cL_law 1656 = .ok (.iload 4, 2) := by decide +kernel
theorem dL_law_1658 : decode cL_law 1658 = .ok (.iconst 2, 1) := by decide +kernel
theorem dL_law_1659 : decode cL_law 1659 = .ok (.iadd, 1) := by decide +kernel
theorem dL_law_1660 : decode cL_law 1660 = .ok (.iaload, 1) := by decide +kernel
theorem dL_law_1661 : decode cL_law 1661 = .ok (.invokevirtual 210, 3) := by decide +kernel
theorem dL_law_1664 : decode cL_law 1664 = .ok (.istore 6, 2) := by decide +kernel
theorem dL_law_1666 : decode cL_law 1666 = .ok (.aload_n 2, 1) := by decide +kernel
theorem dL_law_1667 : decode cL_law 1667 = .ok (.invokevirtual 136, 3) := by decide +kernel
theorem dL_law_1670 : decode cL_law 1670 = .ok (.iload 5, 2) := by decide +kernel
theorem dL_law_1672 : decode cL_law 1672 = .ok (.if_icmp .eq 5, 3) := by decide +kernel
theorem dL_law_1677 : decode cL_law 1677 = .ok (.iload 5, 2) := by decide +kernel
theorem dL_law_1679 : decode cL_law 1679 = .ok (.ifCond .ne 15, 3) := by decide +kernel
theorem dL_law_1694 : decode cL_law 1694 = .ok (.goto 755, 3) := by decide +kernel
abbrev M_L_writeWords : MRec := (yL_writeWords, cL_writeWords, 4, (some Jvm.ClassFile.FieldType.int), [((0 : Nat), (9 : Nat), (12 : Nat), (24 : Nat)), ((0 : Nat), (9 : Nat), (15 : Nat), (13 : Nat))])
theorem m_L_writeWords : en_M M_L_writeWords 3 := ⟨t_1042, t_0, ⟨by decide +kernel, by decide +kernel⟩, by decide +kernel, by decide +kernel, by decide +kernel⟩
abbrev M_X11_writeWords : MRec := (yX11_writeWords, cX11_writeWords, 3, (some Jvm.ClassFile.FieldType.int), [])
theorem m_X11_writeWords : en_M M_X11_writeWords 1 := ⟨t_1046, t_1, ⟨by decide +kernel, by decide +kernel⟩, by decide +kernel, by decide +kernel, by decide +kernel⟩
abbrev M_X12_writeWords : MRec := (yX12_writeWords, cX12_writeWords, 5, (some Jvm.ClassFile.FieldType.int), [])
theorem m_X12_writeWords : en_M M_X12_writeWords 1 := ⟨t_3032, t_14, ⟨by decide +kernel, by decide +kernel⟩, by decide +kernel, by decide +kernel, by decide +kernel⟩
abbrev M_L_judge : MRec := (yL_judge, cL_judge, 4, (some Jvm.ClassFile.FieldType.int), [((0 : Nat), (9 : Nat), (12 : Nat), (24 : Nat)), ((0 : Nat), (9 : Nat), (15 : Nat), (13 : Nat))])
theorem m_L_judge : en_M M_L_judge 3 := ⟨t_1175, t_0, ⟨by decide +kernel, by decide +kernel⟩, by decide +kernel, by decide +kernel, by decide +kernel⟩
abbrev M_X11_judge : MRec := (yX11_judge, cX11_judge, 3, (some Jvm.ClassFile.FieldType.int), [])
theorem m_X11_judge : en_M M_X11_judge 1 := ⟨t_1179, t_1, ⟨by decide +kernel, by decide +kernel⟩, by decide +kernel, by decide +kernel, by decide +kernel⟩
abbrev M_X12_judge : MRec := (yX12_judge, cX12_judge, 11, (some Jvm.ClassFile.FieldType.int), [])
theorem m_X12_judge : en_M M_X12_judge 1 := ⟨t_3217, t_14, ⟨by decide +kernel, by decide +kernel⟩, by decide +kernel, by decide +kernel, by decide +kernel⟩
abbrev M_L_bounds : MRec := (yL_bounds, cL_bounds, 5, (some Jvm.ClassFile.FieldType.int), [((0 : Nat), (10 : Nat), (13 : Nat), (24 : Nat)), ((0 : Nat), (10 : Nat), (17 : Nat), (13 : Nat)), ((0 : Nat), (10 : Nat), (21 : Nat), (19 : Nat))])
theorem m_L_bounds : en_M M_L_bounds 4 := ⟨t_2231, t_0, ⟨by decide +kernel, by decide +kernel⟩, by decide +kernel, by decide +kernel, by decide +kernel⟩
abbrev M_X11_bounds : MRec := (yX11_bounds, cX11_bounds, 4, (some Jvm.ClassFile.FieldType.int), [])
theorem m_X11_bounds : en_M M_X11_bounds 2 := ⟨t_2235, t_1, ⟨by decide +kernel, by decide +kernel⟩, by decide +kernel, by decide +kernel, by decide +kernel⟩
abbrev M_X12_bounds : MRec := (yX12_bounds, cX12_bounds, 5, (some Jvm.ClassFile.FieldType.int), [])
theorem m_X12_bounds : en_M M_X12_bounds 2 := ⟨t_3122, t_14, ⟨by decide +kernel, by decide +kernel⟩, by decide +kernel, by decide +kernel, by decide +kernel⟩
abbrev M_L_writeBytes : MRec := (yL_writeBytes, cL_writeBytes, 5, (some Jvm.ClassFile.FieldType.int), [((0 : Nat), (10 : Nat), (13 : Nat), (24 : Nat)), ((0 : Nat), (10 : Nat), (17 : Nat), (13 : Nat)), ((0 : Nat), (10 : Nat), (21 : Nat), (19 : Nat))])
theorem m_L_writeBytes : en_M M_L_writeBytes 4 := ⟨t_1112, t_0, ⟨by decide +kernel, by decide +kernel⟩, by decide +kernel, by decide +kernel, by decide +kernel⟩
abbrev M_X11_writeBytes : MRec := (yX11_writeBytes, cX11_writeBytes, 4, (some Jvm.ClassFile.FieldType.int), [])
theorem m_X11_writeBytes : en_M M_X11_writeBytes 2 := ⟨t_1116, t_1, ⟨by decide +kernel, by decide +kernel⟩, by decide +kernel, by decide +kernel, by decide +kernel⟩
abbrev M_X12_writeBytes : MRec := (yX12_writeBytes, cX12_writeBytes, 8, (some Jvm.ClassFile.FieldType.int), [])
theorem m_X12_writeBytes : en_M M_X12_writeBytes 2 := ⟨t_3077, t_14, ⟨by decide +kernel, by decide +kernel⟩, by decide +kernel, by decide +kernel, by decide +kernel⟩
abbrev M_L_drop : MRec := (yL_drop, cL_drop, 4, (some Jvm.ClassFile.FieldType.int), [((0 : Nat), (16 : Nat), (19 : Nat), (24 : Nat))])
theorem m_L_drop : en_M M_L_drop 3 := ⟨t_1157, t_0, ⟨by decide +kernel, by decide +kernel⟩, by decide +kernel, by decide +kernel, by decide +kernel⟩
abbrev M_X11_drop : MRec := (yX11_drop, cX11_drop, 4, (some Jvm.ClassFile.FieldType.boolean), [])
theorem m_X11_drop : en_M M_X11_drop 1 := ⟨t_1161, t_1, ⟨by decide +kernel, by decide +kernel⟩, by decide +kernel, by decide +kernel, by decide +kernel⟩
abbrev M_X12_drop : MRec := (yX12_drop, cX12_drop, 3, (some Jvm.ClassFile.FieldType.boolean), [])
theorem m_X12_drop : en_M M_X12_drop 1 := ⟨t_3101, t_14, ⟨by decide +kernel, by decide +kernel⟩, by decide +kernel, by decide +kernel, by decide +kernel⟩
abbrev M_X6_clear : MRec := (yX6_clear, cX6_clear, 1, none, [])
theorem m_X6_clear : en_M M_X6_clear 0 := ⟨t_770, t_2, ⟨by decide +kernel, by decide +kernel⟩, by decide +kernel, by decide +kernel, by decide +kernel⟩
abbrev M_X12_clear : MRec := (yX12_clear, cX12_clear, 2, none, [])
theorem m_X12_clear : en_M M_X12_clear 1 := ⟨t_2851, t_14, ⟨by decide +kernel, by decide +kernel⟩, by decide +kernel, by decide +kernel, by decide +kernel⟩
abbrev M_L_same : MRec := (yL_same, cL_same, 5, (some Jvm.ClassFile.FieldType.int), [((0 : Nat), (17 : Nat), (20 : Nat), (24 : Nat))])
theorem m_L_same : en_M M_L_same 4 := ⟨t_1164, t_0, ⟨by decide +kernel, by decide +kernel⟩, by decide +kernel, by decide +kernel, by decide +kernel⟩
abbrev M_X11_same : MRec := (yX11_same, cX11_same, 5, (some Jvm.ClassFile.FieldType.boolean), [])
theorem m_X11_same : en_M M_X11_same 2 := ⟨t_1168, t_1, ⟨by decide +kernel, by decide +kernel⟩, by decide +kernel, by decide +kernel, by decide +kernel⟩
abbrev M_X12_same : MRec := (yX12_same, cX12_same, 5, (some Jvm.ClassFile.FieldType.boolean), [])
theorem m_X12_same : en_M M_X12_same 2 := ⟨t_3105, t_14, ⟨by decide +kernel, by decide +kernel⟩, by decide +kernel, by decide +kernel, by decide +kernel⟩
abbrev M_X6_isLike : MRec := (yX6_isLike, cX6_isLike, 3, (some Jvm.ClassFile.FieldType.boolean), [])
theorem m_X6_isLike : en_M M_X6_isLike 1 := ⟨t_1172, t_2, ⟨by decide +kernel, by decide +kernel⟩, by decide +kernel, by decide +kernel, by decide +kernel⟩
abbrev M_L_copy : MRec := (yL_copy, cL_copy, 5, (some Jvm.ClassFile.FieldType.int), [((0 : Nat), (10 : Nat), (13 : Nat), (24 : Nat)), ((0 : Nat), (10 : Nat), (17 : Nat), (13 : Nat))])
theorem m_L_copy : en_M M_L_copy 4 := ⟨t_1145, t_0, ⟨by decide +kernel, by decide +kernel⟩, by decide +kernel, by decide +kernel, by decide +kernel⟩
abbrev M_X11_copy : MRec := (yX11_copy, cX11_copy, 5, (some Jvm.ClassFile.FieldType.int), [])
theorem m_X11_copy : en_M M_X11_copy 2 := ⟨t_1149, t_1, ⟨by decide +kernel, by decide +kernel⟩, by decide +kernel, by decide +kernel, by decide +kernel⟩
abbrev M_X12_copy : MRec := (yX12_copy, cX12_copy, 3, (some Jvm.ClassFile.FieldType.int), [])
theorem m_X12_copy : en_M M_X12_copy 2 := ⟨t_3097, t_14, ⟨by decide +kernel, by decide +kernel⟩, by decide +kernel, by decide +kernel, by decide +kernel⟩
abbrev M_L_relate : MRec := (yL_relate, cL_relate, 5, (some Jvm.ClassFile.FieldType.int), [((0 : Nat), (10 : Nat), (13 : Nat), (24 : Nat)), ((0 : Nat), (10 : Nat), (17 : Nat), (13 : Nat)), ((0 : Nat), (10 : Nat), (21 : Nat), (19 : Nat)), ((0 : Nat), (10 : Nat), (25 : Nat), (63 : Nat))])
theorem m_L_relate : en_M M_L_relate 4 := ⟨t_1874, t_0, ⟨by decide +kernel, by decide +kernel⟩, by decide +kernel, by decide +kernel, by decide +kernel⟩
abbrev M_X11_relate : MRec := (yX11_relate, cX11_relate, 3, (some Jvm.ClassFile.FieldType.int), [])
theorem m_X11_relate : en_M M_X11_relate 2 := ⟨t_1878, t_1, ⟨by decide +kernel, by decide +kernel⟩, by decide +kernel, by decide +kernel, by decide +kernel⟩
abbrev M_X11_mustBeRelatable : MRec := (yX11_mustBeRelatable, cX11_mustBeRelatable, 6, none, [])
theorem m_X11_mustBeRelatable : en_M M_X11_mustBeRelatable 3 := ⟨t_1882, t_1, ⟨by decide +kernel, by decide +kernel⟩, by decide +kernel, by decide +kernel, by decide +kernel⟩
abbrev M_X12_relate : MRec := (yX12_relate, cX12_relate, 5, (some Jvm.ClassFile.FieldType.int), [])
theorem m_X12_relate : en_M M_X12_relate 2 := ⟨t_3489, t_14, ⟨by decide +kernel, by decide +kernel⟩, by decide +kernel, by decide +kernel, by decide +kernel⟩
set_option maxRecDepth 10000 in
theorem q888 {l : Launch} {E : EE} (hl : l.stackTraces = false) {h : HP} {a0 : Int32} (c0 : a0.toInt < 0) (o884 : ob h 32 = some (.inr (14, [.ref 33, .ref 162, .ref 166, .int (0 : Int32), .int (0 : Int32), .int (0 : Int32), .ref 167, .ref 170, .ref 173, .ref 177, .ref 193, .ref 208, .ref 222, .ref 238, .ref 252, .ref 274, .ref 275, .ref 276, .int (0 : Int32)]))) : en_C l E M_X11_writeWords 7 1 6 [.ref 32, .int a0] h (pT "java/lang/IndexOutOfBoundsException" [] h (fun _ => True)) := by
  refine en_mk m_X11_writeWords rfl hl (Nat.le_of_ble_eq_true rfl) ?_
  refine x_aload_n (M := M_X11_writeWords) dX11_writeWords_0 rfl ?_
  refine x_iload_n (M := M_X11_writeWords) dX11_writeWords_1 rfl ?_
  exact y_callVX (M := M_X11_writeWords) (M' := M_X11_slotNumbered) rfl rfl dX11_writeWords_2 m_X11_slotNumbered t_744 t_746 s_2 (q392 hl c0) rfl rfl o884 rfl (Nat.le_of_ble_eq_true rfl) (Nat.le_of_ble_eq_true rfl) (Nat.le_of_ble_eq_true rfl) (Nat.le_of_ble_eq_true rfl) (fun h885 f886 w887 => ⟨rfl, (fr_tr f886 (fun _ h => nomatch h) fr_rf), trivial⟩)
set_option maxRecDepth 10000 in
theorem q893 {l : Launch} {E : EE} (hl : l.stackTraces = false) {h : HP} {a0 : Int32} (c0 : a0.toInt < 0) (o889 : ob h 32 = some (.inr (14, [.ref 33, .ref 162, .ref 166, .int (0 : Int32), .int (0 : Int32), .int (0 : Int32), .ref 167, .ref 170, .ref 173, .ref 177, .ref 193, .ref 208, .ref 222, .ref 238, .ref 252, .ref 274, .ref 275, .ref 276, .int (0 : Int32)]))) : en_C l E M_L_writeWords 8 1 6 [.ref 32, .int a0, .ref 359] h (pF (some (.int (Int32.ofInt 1))) [] h (fun _ => True)) := by
  refine en_mkW m_L_writeWords rfl hl (Nat.le_of_ble_eq_true rfl) ?_
  refine x_aload_n (M := M_L_writeWords) dL_writeWords_0 rfl ?_
  refine x_iconst (M := M_L_writeWords) dL_writeWords_1 ?_
  refine x_aload_n (M := M_L_writeWords) dL_writeWords_2 rfl ?_
  refine x_iload_n (M := M_L_writeWords) dL_writeWords_3 rfl ?_
  refine y_callVHX (M := M_L_writeWords) (M' := M_X11_writeWords) (i9 := 3) (nx := 13) rfl dL_writeWords_4 m_X11_writeWords t_1043 t_1044 t_1045 o889 rfl (q888 hl c0 o889) rfl rfl (Nat.le_of_ble_eq_true rfl) (Nat.le_of_ble_eq_true rfl) (Nat.le_of_ble_eq_true rfl) (Nat.le_of_ble_eq_true rfl) (en_hdn (k0 := 3) [] [(0, 9, 15, 13)] rfl (fun _ h => nomatch h) (by decide +kernel) (by decide) t_739 n_750 dL_writeWords_12) (by decide) rfl (fun h890 f891 w892 => ?_)
  refine x_iconst (M := M_L_writeWords) dL_writeWords_13 ?_
  exact x_iret (M := M_L_writeWords) dL_writeWords_14 rfl ⟨rfl, (fr_tr f891 (fun _ h => nomatch h) fr_rf), trivial⟩ (Nat.le_of_ble_eq_true rfl) (Nat.le_of_ble_eq_true rfl)
set_option maxRecDepth 10000 in
theorem q906 {l : Launch} {E : EE} (hl : l.stackTraces = false) {h : HP} {a0 : Int32} {dg : Int32} (c0 : a0.toInt < 0) (o898 : ob h 277 = some (.inr (15, (RB dg)))) : en_C l E M_X12_writeWords 1 0 0 [.ref 277, .int a0] h (pF (some (.int (Int32.ofInt 0))) [277] h (fun h' => ob h' 277 = some (.inr (15, ((RB dg).set 0 (.int (Int32.ofInt 1))))) ∧ True)) := by
  refine en_mk m_X12_writeWords rfl hl (Nat.le_of_ble_eq_true rfl) ?_
  refine x_aload_n (M := M_X12_writeWords) dX12_writeWords_0 rfl ?_
  refine x_iconst (M := M_X12_writeWords) dX12_writeWords_1 ?_
  refine y_put (M := M_X12_writeWords) (ci := 15) (C := RX12) (T := TX12) (N := 135) (ty := tyX12) cl15 dX12_writeWords_2 o898 0 (by decide) t_2391 (Or.inl rfl) (Nat.le_of_ble_eq_true rfl) rfl (fun h899 w900 f901 => ?_)
  refine x_aload_n (M := M_X12_writeWords) dX12_writeWords_5 rfl ?_
  refine x_iload_n (M := M_X12_writeWords) dX12_writeWords_6 rfl ?_
  refine x_callSR (M := M_X12_writeWords) (M' := M_X12_isSlot) rfl rfl dX12_writeWords_7 m_X12_isSlot t_2841 t_2842 (q411 hl c0) rfl rfl (Nat.le_of_ble_eq_true rfl) (Nat.le_of_ble_eq_true rfl) (Nat.le_of_ble_eq_true rfl) (Nat.le_of_ble_eq_true rfl) ?_
  refine x_if_ne (M := M_X12_writeWords) (tgt := 17) dX12_writeWords_10 (by decide) (fun q => absurd q (by decide +kernel)) (fun _ => ?_)
  refine x_iconst (M := M_X12_writeWords) dX12_writeWords_13 ?_
  refine x_goto (M := M_X12_writeWords) (tgt := 18) dX12_writeWords_14 (by decide) ?_
  refine x_iconst (M := M_X12_writeWords) dX12_writeWords_18 ?_
  refine y_callVR (M := M_X12_writeWords) (M' := M_X12_fails) rfl rfl dX12_writeWords_19 m_X12_fails t_2805 t_2807 s_157 (q22 hl w900) rfl rfl w900 rfl (Nat.le_of_ble_eq_true rfl) (Nat.le_of_ble_eq_true rfl) (Nat.le_of_ble_eq_true rfl) (Nat.le_of_ble_eq_true rfl) (fun h902 f903 w904 => ?_)
  obtain ⟨o905, -⟩ := w904
  refine x_if_ne (M := M_X12_writeWords) (tgt := 46) dX12_writeWords_22 (by decide) (fun _ => ?_) (fun q => absurd q (by decide +kernel))
  refine x_iconst (M := M_X12_writeWords) dX12_writeWords_46 ?_
  exact x_iret (M := M_X12_writeWords) dX12_writeWords_47 rfl ⟨rfl, (fr_tr f903 (by decide) (fr_tr f901 (by decide) fr_rf)), ⟨o905, trivial⟩⟩ (Nat.le_of_ble_eq_true rfl) (Nat.le_of_ble_eq_true rfl)
set_option maxRecDepth 10000 in
theorem lc6_0 {l : Launch} {E : EE} (hl : l.stackTraces = false) (nm : String) {xs : Nat → Int32} (hx : E.2.2.2.2 0 = some (7, xs)) {h : HP} {a0 : Int32} {dg : Int32} (e2 : xs 2 = a0) (c0 : a0.toInt < 0) (o894 : ob h 32 = some (.inr (14, [.ref 33, .ref 162, .ref 166, .int (0 : Int32), .int (0 : Int32), .int (0 : Int32), .ref 167, .ref 170, .ref 173, .ref 177, .ref 193, .ref 208, .ref 222, .ref 238, .ref 252, .ref 274, .ref 275, .ref 276, .int (0 : Int32)]))) (o907 : ob h 277 = some (.inr (15, (RB dg)))) : XX l E (M_law nm) 1312 342628 8074320 (fun o _ => o = .inl (some (.int 1))) 533 [some (.ref 0), some (.ref 32), some (.ref 277), some (.ref 359), some (.int (Int32.ofInt 1)), none, none, none] [] h 328 2463747 := by
  refine x_aload_n (M := (M_law nm)) dL_law_533 rfl ?_
  refine x_aload_n (M := (M_law nm)) dL_law_534 rfl ?_
  refine x_iload (M := (M_law nm)) dL_law_535 rfl ?_
  refine x_iconst (M := (M_law nm)) dL_law_537 ?_
  refine x_iadd (M := (M_law nm)) dL_law_538 ?_
  refine x_sald (M := (M_law nm)) dL_law_539 (by decide) hx (vp_inD (by decide +kernel)) ?_
  refine x_top (M := (M_law nm)) (y := a0) ((congrArg xs (by decide +kernel : ((Int32.ofInt 1) + (Int32.ofInt 1)).toNatClampNeg = 2)).trans e2) ?_
  refine x_aload_n (M := (M_law nm)) dL_law_540 rfl ?_
  refine y_callSW (M := (M_law nm)) (M' := M_L_writeWords) rfl rfl dL_law_541 m_L_writeWords t_1040 t_1041 (q893 hl c0 o894) rfl rfl (Nat.le_of_ble_eq_true rfl) (Nat.le_of_ble_eq_true rfl) (Nat.le_of_ble_eq_true rfl) (Nat.le_of_ble_eq_true rfl) (fun h895 f896 w897 => ?_)
  refine x_istore (M := (M_law nm)) dL_law_544 (Nat.le_of_ble_eq_true rfl) rfl ?_
  refine x_aload_n (M := (M_law nm)) dL_law_546 rfl ?_
  refine x_aload_n (M := (M_law nm)) dL_law_547 rfl ?_
  refine x_iload (M := (M_law nm)) dL_law_548 rfl ?_
  refine x_iconst (M := (M_law nm)) dL_law_550 ?_
  refine x_iadd (M := (M_law nm)) dL_law_551 ?_
  refine x_sald (M := (M_law nm)) dL_law_552 (by decide) hx (vp_inD (by decide +kernel)) ?_
  refine x_top (M := (M_law nm)) (y := a0) ((congrArg xs (by decide +kernel : ((Int32.ofInt 1) + (Int32.ofInt 1)).toNatClampNeg = 2)).trans e2) ?_
  have o908 := (f896 277 _ (by decide) o907)
  refine y_callVR (M := (M_law nm)) (M' := M_X12_writeWords) rfl rfl dL_law_553 m_X12_writeWords t_3029 t_3030 t_3031 (q906 hl c0 o908) rfl rfl o908 rfl (Nat.le_of_ble_eq_true rfl) (Nat.le_of_ble_eq_true rfl) (Nat.le_of_ble_eq_true rfl) (Nat.le_of_ble_eq_true rfl) (fun h909 f910 w911 => ?_)
  obtain ⟨o912, -⟩ := w911
  refine x_istore (M := (M_law nm)) dL_law_556 (Nat.le_of_ble_eq_true rfl) rfl ?_
  refine x_aload_n (M := (M_law nm)) dL_law_558 rfl ?_
  refine x_callVR (M := (M_law nm)) (M' := M_X12_thrown) rfl rfl dL_law_559 m_X12_thrown t_2797 t_2798 t_2799 (q35 hl o912) rfl rfl o912 rfl (Nat.le_of_ble_eq_true rfl) (Nat.le_of_ble_eq_true rfl) (Nat.le_of_ble_eq_true rfl) (Nat.le_of_ble_eq_true rfl) ?_
  refine x_iload (M := (M_law nm)) dL_law_562 rfl ?_
  refine x_icmp_eq (M := (M_law nm)) (tgt := 569) dL_law_564 (by decide) (fun _ => ?_) (fun q => absurd q (by decide +kernel))
  refine x_iload (M := (M_law nm)) dL_law_569 rfl ?_
  refine x_if_ne (M := (M_law nm)) (tgt := 586) dL_law_571 (by decide) (fun _ => ?_) (fun q => absurd q (by decide +kernel))
  refine x_goto (M := (M_law nm)) (tgt := 2449) dL_law_586 (by decide) ?_
  refine x_iinc (M := (M_law nm)) dL_law_2449 rfl (Nat.le_of_ble_eq_true rfl) rfl ?_
  refine x_lvs (M := (M_law nm)) (lv' := [some (.ref 0), some (.ref 32), some (.ref 277), some (.ref 359), some (.int (Int32.ofInt 7)), some (.int (Int32.ofInt 1)), some (.int (Int32.ofInt 0)), none]) (by rw [(by decide +kernel : (Int32.ofInt 1) + Int32.ofInt 6 = (Int32.ofInt 7))] <;> rfl) ?_
  refine x_goto (M := (M_law nm)) (tgt := 33) dL_law_2452 (by decide) ?_
  refine x_iload (M := (M_law nm)) dL_law_33 rfl ?_
  refine x_aload_n (M := (M_law nm)) dL_law_35 rfl ?_
  refine x_slen (M := (M_law nm)) dL_law_36 (by decide) hx ?_
  refine x_bipush (M := (M_law nm)) dL_law_37 ?_
  refine x_isub (M := (M_law nm)) dL_law_39 ?_
  refine x_icmp_gt (M := (M_law nm)) (tgt := 2455) dL_law_40 (by decide) (fun _ => ?_) (fun q => absurd q (by decide +kernel))
  refine x_iconst (M := (M_law nm)) dL_law_2455 ?_
  exact x_zret (M := (M_law nm)) dL_law_2456 rfl (by decide) rfl (Nat.le_of_ble_eq_true rfl) (Nat.le_of_ble_eq_true rfl)
set_option maxRecDepth 10000 in
theorem q919 {l : Launch} {E : EE} (hl : l.stackTraces = false) {h : HP} {a0 : Int32} (c0 : ¬ (a0.toInt < 0)) (c1 : a0.toInt < 32) (o913 : ob h 32 = some (.inr (14, [.ref 33, .ref 162, .ref 166, .int (0 : Int32), .int (0 : Int32), .int (0 : Int32), .ref 167, .ref 170, .ref 173, .ref 177, .ref 193, .ref 208, .ref 222, .ref 238, .ref 252, .ref 274, .ref 275, .ref 276, .int (0 : Int32)]))) (o914 : ob h 33 = some (.inl (4, 32, .inr (.inr (.inr (.inr (shf 1 32))))))) (o915 : ob h (34 + 4 * a0.toNatClampNeg) = some (.inr (9, [.ref (35 + 4 * a0.toNatClampNeg), .ref (36 + 4 * a0.toNatClampNeg), .ref (37 + 4 * a0.toNatClampNeg), .int (0 : Int32), .int (0 : Int32)]))) : en_C l E M_X11_writeWords 7 1 6 [.ref 32, .int a0] h (pT "java/lang/IllegalStateException" [] h (fun _ => True)) := by
  have n_a0 : a0.toNatClampNeg < 32 := nc_lt (by omega) (by decide)
  refine en_mk m_X11_writeWords rfl hl (Nat.le_of_ble_eq_true rfl) ?_
  refine x_aload_n (M := M_X11_writeWords) dX11_writeWords_0 rfl ?_
  refine x_iload_n (M := M_X11_writeWords) dX11_writeWords_1 rfl ?_
  refine x_callVR (M := M_X11_writeWords) (M' := M_X11_slotNumbered) rfl rfl dX11_writeWords_2 m_X11_slotNumbered t_744 t_746 s_2 (q425 hl c0 c1 o913 o914) rfl rfl o913 rfl (Nat.le_of_ble_eq_true rfl) (Nat.le_of_ble_eq_true rfl) (Nat.le_of_ble_eq_true rfl) (Nat.le_of_ble_eq_true rfl) ?_
  refine x_astore_n (M := M_X11_writeWords) dX11_writeWords_5 (Nat.le_of_ble_eq_true rfl) rfl ?_
  refine x_aload_n (M := M_X11_writeWords) dX11_writeWords_6 rfl ?_
  exact y_callSX (M := M_X11_writeWords) (M' := M_X11_mustBeThere) rfl rfl dX11_writeWords_7 m_X11_mustBeThere t_1047 t_1048 (q810 hl c0 c1 o915) rfl rfl (Nat.le_of_ble_eq_true rfl) (Nat.le_of_ble_eq_true rfl) (Nat.le_of_ble_eq_true rfl) (Nat.le_of_ble_eq_true rfl) (fun h916 f917 w918 => ⟨rfl, (fr_tr f917 (fun _ h => nomatch h) fr_rf), trivial⟩)
set_option maxRecDepth 10000 in
theorem q926 {l : Launch} {E : EE} (hl : l.stackTraces = false) {h : HP} {a0 : Int32} (c0 : ¬ (a0.toInt < 0)) (c1 : a0.toInt < 32) (o920 : ob h 32 = some (.inr (14, [.ref 33, .ref 162, .ref 166, .int (0 : Int32), .int (0 : Int32), .int (0 : Int32), .ref 167, .ref 170, .ref 173, .ref 177, .ref 193, .ref 208, .ref 222, .ref 238, .ref 252, .ref 274, .ref 275, .ref 276, .int (0 : Int32)]))) (o921 : ob h 33 = some (.inl (4, 32, .inr (.inr (.inr (.inr (shf 1 32))))))) (o922 : ob h (34 + 4 * a0.toNatClampNeg) = some (.inr (9, [.ref (35 + 4 * a0.toNatClampNeg), .ref (36 + 4 * a0.toNatClampNeg), .ref (37 + 4 * a0.toNatClampNeg), .int (0 : Int32), .int (0 : Int32)]))) : en_C l E M_L_writeWords 8 1 6 [.ref 32, .int a0, .ref 359] h (pF (some (.int (Int32.ofInt 2))) [] h (fun _ => True)) := by
  have n_a0 : a0.toNatClampNeg < 32 := nc_lt (by omega) (by decide)
  refine en_mkW m_L_writeWords rfl hl (Nat.le_of_ble_eq_true rfl) ?_
  refine x_aload_n (M := M_L_writeWords) dL_writeWords_0 rfl ?_
  refine x_iconst (M := M_L_writeWords) dL_writeWords_1 ?_
  refine x_aload_n (M := M_L_writeWords) dL_writeWords_2 rfl ?_
  refine x_iload_n (M := M_L_writeWords) dL_writeWords_3 rfl ?_
  refine y_callVHX (M := M_L_writeWords) (M' := M_X11_writeWords) (i9 := 3) (nx := 16) rfl dL_writeWords_4 m_X11_writeWords t_1043 t_1044 t_1045 o920 rfl (q919 hl c0 c1 o920 o921 o922) rfl rfl (Nat.le_of_ble_eq_true rfl) (Nat.le_of_ble_eq_true rfl) (Nat.le_of_ble_eq_true rfl) (Nat.le_of_ble_eq_true rfl) (en_hdn (k0 := 3) [(0, 9, 12, 24)] [] rfl (List.forall_mem_cons.mpr ⟨⟨by decide, "java/lang/IndexOutOfBoundsException", t_739, by decide +kernel, by decide +kernel, by decide +kernel⟩, (fun _ h => nomatch h)⟩) (by decide +kernel) (by decide) t_637 n_645 dL_writeWords_15) (by decide) rfl (fun h923 f924 w925 => ?_)
  refine x_iconst (M := M_L_writeWords) dL_writeWords_16 ?_
  exact x_iret (M := M_L_writeWords) dL_writeWords_17 rfl ⟨rfl, (fr_tr f924 (fun _ h => nomatch h) fr_rf), trivial⟩ (Nat.le_of_ble_eq_true rfl) (Nat.le_of_ble_eq_true rfl)
set_option maxRecDepth 10000 in
theorem q947 {l : Launch} {E : EE} (hl : l.stackTraces = false) {h : HP} {a0 : Int32} {dg : Int32} (c0 : ¬ (a0.toInt < 0)) (c1 : a0.toInt < 32) (o933 : ob h 277 = some (.inr (15, (RB dg)))) (o941 : ob h 280 = some (.inl (0, 33, .inl (fun _ => 0)))) : en_C l E M_X12_writeWords 1 0 0 [.ref 277, .int a0] h (pF (some (.int (Int32.ofInt 0))) [277] h (fun h' => ob h' 277 = some (.inr (15, ((RB dg).set 0 (.int (Int32.ofInt 2))))) ∧ True)) := by
  refine en_mk m_X12_writeWords rfl hl (Nat.le_of_ble_eq_true rfl) ?_
  refine x_aload_n (M := M_X12_writeWords) dX12_writeWords_0 rfl ?_
  refine x_iconst (M := M_X12_writeWords) dX12_writeWords_1 ?_
  refine y_put (M := M_X12_writeWords) (ci := 15) (C := RX12) (T := TX12) (N := 135) (ty := tyX12) cl15 dX12_writeWords_2 o933 0 (by decide) t_2391 (Or.inl rfl) (Nat.le_of_ble_eq_true rfl) rfl (fun h934 w935 f936 => ?_)
  refine x_aload_n (M := M_X12_writeWords) dX12_writeWords_5 rfl ?_
  refine x_iload_n (M := M_X12_writeWords) dX12_writeWords_6 rfl ?_
  refine x_callSR (M := M_X12_writeWords) (M' := M_X12_isSlot) rfl rfl dX12_writeWords_7 m_X12_isSlot t_2841 t_2842 (q447 hl c0 c1) rfl rfl (Nat.le_of_ble_eq_true rfl) (Nat.le_of_ble_eq_true rfl) (Nat.le_of_ble_eq_true rfl) (Nat.le_of_ble_eq_true rfl) ?_
  refine x_if_ne (M := M_X12_writeWords) (tgt := 17) dX12_writeWords_10 (by decide) (fun _ => ?_) (fun q => absurd q (by decide +kernel))
  refine x_iconst (M := M_X12_writeWords) dX12_writeWords_17 ?_
  refine x_iconst (M := M_X12_writeWords) dX12_writeWords_18 ?_
  refine y_callVR (M := M_X12_writeWords) (M' := M_X12_fails) rfl rfl dX12_writeWords_19 m_X12_fails t_2805 t_2807 s_157 (q241 hl w935) rfl rfl w935 rfl (Nat.le_of_ble_eq_true rfl) (Nat.le_of_ble_eq_true rfl) (Nat.le_of_ble_eq_true rfl) (Nat.le_of_ble_eq_true rfl) (fun h937 f938 w939 => ?_)
  obtain ⟨o940, -⟩ := w939
  refine x_if_ne (M := M_X12_writeWords) (tgt := 46) dX12_writeWords_22 (by decide) (fun q => absurd q (by decide +kernel)) (fun _ => ?_)
  refine x_aload_n (M := M_X12_writeWords) dX12_writeWords_25 rfl ?_
  refine x_aload_n (M := M_X12_writeWords) dX12_writeWords_26 rfl ?_
  refine x_iload_n (M := M_X12_writeWords) dX12_writeWords_27 rfl ?_
  have o942 := (f938 280 _ (by decide) (f936 280 _ (by decide) o941))
  refine x_callVR (M := M_X12_writeWords) (M' := M_X12_has) rfl rfl dX12_writeWords_28 m_X12_has t_3033 t_3035 s_197 (q839 hl c0 c1 o940 o942) rfl rfl o940 rfl (Nat.le_of_ble_eq_true rfl) (Nat.le_of_ble_eq_true rfl) (Nat.le_of_ble_eq_true rfl) (Nat.le_of_ble_eq_true rfl) ?_
  refine x_if_ne (M := M_X12_writeWords) (tgt := 38) dX12_writeWords_31 (by decide) (fun q => absurd q (by decide +kernel)) (fun _ => ?_)
  refine x_iconst (M := M_X12_writeWords) dX12_writeWords_34 ?_
  refine x_goto (M := M_X12_writeWords) (tgt := 39) dX12_writeWords_35 (by decide) ?_
  refine x_iconst (M := M_X12_writeWords) dX12_writeWords_39 ?_
  refine y_callVR (M := M_X12_writeWords) (M' := M_X12_fails) rfl rfl dX12_writeWords_40 m_X12_fails t_2805 t_2807 s_157 (q761 hl o940) rfl rfl o940 rfl (Nat.le_of_ble_eq_true rfl) (Nat.le_of_ble_eq_true rfl) (Nat.le_of_ble_eq_true rfl) (Nat.le_of_ble_eq_true rfl) (fun h943 f944 w945 => ?_)
  obtain ⟨o946, -⟩ := w945
  refine x_if_eq (M := M_X12_writeWords) (tgt := 48) dX12_writeWords_43 (by decide) (fun q => absurd q (by decide +kernel)) (fun _ => ?_)
  refine x_iconst (M := M_X12_writeWords) dX12_writeWords_46 ?_
  exact x_iret (M := M_X12_writeWords) dX12_writeWords_47 rfl ⟨rfl, (fr_tr f944 (by decide) (fr_tr f938 (by decide) (fr_tr f936 (by decide) fr_rf))), ⟨o946, trivial⟩⟩ (Nat.le_of_ble_eq_true rfl) (Nat.le_of_ble_eq_true rfl)
set_option maxRecDepth 10000 in
theorem lc6_1 {l : Launch} {E : EE} (hl : l.stackTraces = false) (nm : String) {xs : Nat → Int32} (hx : E.2.2.2.2 0 = some (7, xs)) {h : HP} {a0 : Int32} {dg : Int32} (e2 : xs 2 = a0) (c0 : ¬ (a0.toInt < 0)) (c1 : a0.toInt < 32) (o927 : ob h 32 = some (.inr (14, [.ref 33, .ref 162, .ref 166, .int (0 : Int32), .int (0 : Int32), .int (0 : Int32), .ref 167, .ref 170, .ref 173, .ref 177, .ref 193, .ref 208, .ref 222, .ref 238, .ref 252, .ref 274, .ref 275, .ref 276, .int (0 : Int32)]))) (o928 : ob h 33 = some (.inl (4, 32, .inr (.inr (.inr (.inr (shf 1 32))))))) (o929 : ob h (34 + 4 * a0.toNatClampNeg) = some (.inr (9, [.ref (35 + 4 * a0.toNatClampNeg), .ref (36 + 4 * a0.toNatClampNeg), .ref (37 + 4 * a0.toNatClampNeg), .int (0 : Int32), .int (0 : Int32)]))) (o948 : ob h 277 = some (.inr (15, (RB dg)))) (o950 : ob h 280 = some (.inl (0, 33, .inl (fun _ => 0)))) : XX l E (M_law nm) 1312 342628 8074320 (fun o _ => o = .inl (some (.int 1))) 533 [some (.ref 0), some (.ref 32), some (.ref 277), some (.ref 359), some (.int (Int32.ofInt 1)), none, none, none] [] h 328 2463747 := by
  have n_a0 : a0.toNatClampNeg < 32 := nc_lt (by omega) (by decide)
  refine x_aload_n (M := (M_law nm)) dL_law_533 rfl ?_
  refine x_aload_n (M := (M_law nm)) dL_law_534 rfl ?_
  refine x_iload (M := (M_law nm)) dL_law_535 rfl ?_
  refine x_iconst (M := (M_law nm)) dL_law_537 ?_
  refine x_iadd (M := (M_law nm)) dL_law_538 ?_
  refine x_sald (M := (M_law nm)) dL_law_539 (by decide) hx (vp_inD (by decide +kernel)) ?_
  refine x_top (M := (M_law nm)) (y := a0) ((congrArg xs (by decide +kernel : ((Int32.ofInt 1) + (Int32.ofInt 1)).toNatClampNeg = 2)).trans e2) ?_
  refine x_aload_n (M := (M_law nm)) dL_law_540 rfl ?_
  refine y_callSW (M := (M_law nm)) (M' := M_L_writeWords) rfl rfl dL_law_541 m_L_writeWords t_1040 t_1041 (q926 hl c0 c1 o927 o928 o929) rfl rfl (Nat.le_of_ble_eq_true rfl) (Nat.le_of_ble_eq_true rfl) (Nat.le_of_ble_eq_true rfl) (Nat.le_of_ble_eq_true rfl) (fun h930 f931 w932 => ?_)
  refine x_istore (M := (M_law nm)) dL_law_544 (Nat.le_of_ble_eq_true rfl) rfl ?_
  refine x_aload_n (M := (M_law nm)) dL_law_546 rfl ?_
  refine x_aload_n (M := (M_law nm)) dL_law_547 rfl ?_
  refine x_iload (M := (M_law nm)) dL_law_548 rfl ?_
  refine x_iconst (M := (M_law nm)) dL_law_550 ?_
  refine x_iadd (M := (M_law nm)) dL_law_551 ?_
  refine x_sald (M := (M_law nm)) dL_law_552 (by decide) hx (vp_inD (by decide +kernel)) ?_
  refine x_top (M := (M_law nm)) (y := a0) ((congrArg xs (by decide +kernel : ((Int32.ofInt 1) + (Int32.ofInt 1)).toNatClampNeg = 2)).trans e2) ?_
  have o949 := (f931 277 _ (by decide) o948)
  have o951 := (f931 280 _ (by decide) o950)
  refine y_callVR (M := (M_law nm)) (M' := M_X12_writeWords) rfl rfl dL_law_553 m_X12_writeWords t_3029 t_3030 t_3031 (q947 hl c0 c1 o949 o951) rfl rfl o949 rfl (Nat.le_of_ble_eq_true rfl) (Nat.le_of_ble_eq_true rfl) (Nat.le_of_ble_eq_true rfl) (Nat.le_of_ble_eq_true rfl) (fun h952 f953 w954 => ?_)
  obtain ⟨o955, -⟩ := w954
  refine x_istore (M := (M_law nm)) dL_law_556 (Nat.le_of_ble_eq_true rfl) rfl ?_
  refine x_aload_n (M := (M_law nm)) dL_law_558 rfl ?_
  refine x_callVR (M := (M_law nm)) (M' := M_X12_thrown) rfl rfl dL_law_559 m_X12_thrown t_2797 t_2798 t_2799 (q774 hl o955) rfl rfl o955 rfl (Nat.le_of_ble_eq_true rfl) (Nat.le_of_ble_eq_true rfl) (Nat.le_of_ble_eq_true rfl) (Nat.le_of_ble_eq_true rfl) ?_
  refine x_iload (M := (M_law nm)) dL_law_562 rfl ?_
  refine x_icmp_eq (M := (M_law nm)) (tgt := 569) dL_law_564 (by decide) (fun _ => ?_) (fun q => absurd q (by decide +kernel))
  refine x_iload (M := (M_law nm)) dL_law_569 rfl ?_
  refine x_if_ne (M := (M_law nm)) (tgt := 586) dL_law_571 (by decide) (fun _ => ?_) (fun q => absurd q (by decide +kernel))
  refine x_goto (M := (M_law nm)) (tgt := 2449) dL_law_586 (by decide) ?_
  refine x_iinc (M := (M_law nm)) dL_law_2449 rfl (Nat.le_of_ble_eq_true rfl) rfl ?_
  refine x_lvs (M := (M_law nm)) (lv' := [some (.ref 0), some (.ref 32), some (.ref 277), some (.ref 359), some (.int (Int32.ofInt 7)), some (.int (Int32.ofInt 2)), some (.int (Int32.ofInt 0)), none]) (by rw [(by decide +kernel : (Int32.ofInt 1) + Int32.ofInt 6 = (Int32.ofInt 7))] <;> rfl) ?_
  refine x_goto (M := (M_law nm)) (tgt := 33) dL_law_2452 (by decide) ?_
  refine x_iload (M := (M_law nm)) dL_law_33 rfl ?_
  refine x_aload_n (M := (M_law nm)) dL_law_35 rfl ?_
  refine x_slen (M := (M_law nm)) dL_law_36 (by decide) hx ?_
  refine x_bipush (M := (M_law nm)) dL_law_37 ?_
  refine x_isub (M := (M_law nm)) dL_law_39 ?_
  refine x_icmp_gt (M := (M_law nm)) (tgt := 2455) dL_law_40 (by decide) (fun _ => ?_) (fun q => absurd q (by decide +kernel))
  refine x_iconst (M := (M_law nm)) dL_law_2455 ?_
  exact x_zret (M := (M_law nm)) dL_law_2456 rfl (by decide) rfl (Nat.le_of_ble_eq_true rfl) (Nat.le_of_ble_eq_true rfl)
set_option maxRecDepth 10000 in
theorem q960 {l : Launch} {E : EE} (hl : l.stackTraces = false) {h : HP} {a0 : Int32} (c0 : ¬ (a0.toInt < 0)) (c1 : ¬ (a0.toInt < 32)) (o956 : ob h 32 = some (.inr (14, [.ref 33, .ref 162, .ref 166, .int (0 : Int32), .int (0 : Int32), .int (0 : Int32), .ref 167, .ref 170, .ref 173, .ref 177, .ref 193, .ref 208, .ref 222, .ref 238, .ref 252, .ref 274, .ref 275, .ref 276, .int (0 : Int32)]))) : en_C l E M_X11_writeWords 7 1 6 [.ref 32, .int a0] h (pT "java/lang/IndexOutOfBoundsException" [] h (fun _ => True)) := by
  refine en_mk m_X11_writeWords rfl hl (Nat.le_of_ble_eq_true rfl) ?_
  refine x_aload_n (M := M_X11_writeWords) dX11_writeWords_0 rfl ?_
  refine x_iload_n (M := M_X11_writeWords) dX11_writeWords_1 rfl ?_
  exact y_callVX (M := M_X11_writeWords) (M' := M_X11_slotNumbered) rfl rfl dX11_writeWords_2 m_X11_slotNumbered t_744 t_746 s_2 (q511 hl c0 c1) rfl rfl o956 rfl (Nat.le_of_ble_eq_true rfl) (Nat.le_of_ble_eq_true rfl) (Nat.le_of_ble_eq_true rfl) (Nat.le_of_ble_eq_true rfl) (fun h957 f958 w959 => ⟨rfl, (fr_tr f958 (fun _ h => nomatch h) fr_rf), trivial⟩)
set_option maxRecDepth 10000 in
theorem q965 {l : Launch} {E : EE} (hl : l.stackTraces = false) {h : HP} {a0 : Int32} (c0 : ¬ (a0.toInt < 0)) (c1 : ¬ (a0.toInt < 32)) (o961 : ob h 32 = some (.inr (14, [.ref 33, .ref 162, .ref 166, .int (0 : Int32), .int (0 : Int32), .int (0 : Int32), .ref 167, .ref 170, .ref 173, .ref 177, .ref 193, .ref 208, .ref 222, .ref 238, .ref 252, .ref 274, .ref 275, .ref 276, .int (0 : Int32)]))) : en_C l E M_L_writeWords 8 1 6 [.ref 32, .int a0, .ref 359] h (pF (some (.int (Int32.ofInt 1))) [] h (fun _ => True)) := by
  refine en_mkW m_L_writeWords rfl hl (Nat.le_of_ble_eq_true rfl) ?_
  refine x_aload_n (M := M_L_writeWords) dL_writeWords_0 rfl ?_
  refine x_iconst (M := M_L_writeWords) dL_writeWords_1 ?_
  refine x_aload_n (M := M_L_writeWords) dL_writeWords_2 rfl ?_
  refine x_iload_n (M := M_L_writeWords) dL_writeWords_3 rfl ?_
  refine y_callVHX (M := M_L_writeWords) (M' := M_X11_writeWords) (i9 := 3) (nx := 13) rfl dL_writeWords_4 m_X11_writeWords t_1043 t_1044 t_1045 o961 rfl (q960 hl c0 c1 o961) rfl rfl (Nat.le_of_ble_eq_true rfl) (Nat.le_of_ble_eq_true rfl) (Nat.le_of_ble_eq_true rfl) (Nat.le_of_ble_eq_true rfl) (en_hdn (k0 := 3) [] [(0, 9, 15, 13)] rfl (fun _ h => nomatch h) (by decide +kernel) (by decide) t_739 n_750 dL_writeWords_12) (by decide) rfl (fun h962 f963 w964 => ?_)
  refine x_iconst (M := M_L_writeWords) dL_writeWords_13 ?_
  exact x_iret (M := M_L_writeWords) dL_writeWords_14 rfl ⟨rfl, (fr_tr f963 (fun _ h => nomatch h) fr_rf), trivial⟩ (Nat.le_of_ble_eq_true rfl) (Nat.le_of_ble_eq_true rfl)
set_option maxRecDepth 10000 in
theorem q978 {l : Launch} {E : EE} (hl : l.stackTraces = false) {h : HP} {a0 : Int32} {dg : Int32} (c0 : ¬ (a0.toInt < 0)) (c1 : ¬ (a0.toInt < 32)) (o970 : ob h 277 = some (.inr (15, (RB dg)))) : en_C l E M_X12_writeWords 1 0 0 [.ref 277, .int a0] h (pF (some (.int (Int32.ofInt 0))) [277] h (fun h' => ob h' 277 = some (.inr (15, ((RB dg).set 0 (.int (Int32.ofInt 1))))) ∧ True)) := by
  refine en_mk m_X12_writeWords rfl hl (Nat.le_of_ble_eq_true rfl) ?_
  refine x_aload_n (M := M_X12_writeWords) dX12_writeWords_0 rfl ?_
  refine x_iconst (M := M_X12_writeWords) dX12_writeWords_1 ?_
  refine y_put (M := M_X12_writeWords) (ci := 15) (C := RX12) (T := TX12) (N := 135) (ty := tyX12) cl15 dX12_writeWords_2 o970 0 (by decide) t_2391 (Or.inl rfl) (Nat.le_of_ble_eq_true rfl) rfl (fun h971 w972 f973 => ?_)
  refine x_aload_n (M := M_X12_writeWords) dX12_writeWords_5 rfl ?_
  refine x_iload_n (M := M_X12_writeWords) dX12_writeWords_6 rfl ?_
  refine x_callSR (M := M_X12_writeWords) (M' := M_X12_isSlot) rfl rfl dX12_writeWords_7 m_X12_isSlot t_2841 t_2842 (q530 hl c0 c1) rfl rfl (Nat.le_of_ble_eq_true rfl) (Nat.le_of_ble_eq_true rfl) (Nat.le_of_ble_eq_true rfl) (Nat.le_of_ble_eq_true rfl) ?_
  refine x_if_ne (M := M_X12_writeWords) (tgt := 17) dX12_writeWords_10 (by decide) (fun q => absurd q (by decide +kernel)) (fun _ => ?_)
  refine x_iconst (M := M_X12_writeWords) dX12_writeWords_13 ?_
  refine x_goto (M := M_X12_writeWords) (tgt := 18) dX12_writeWords_14 (by decide) ?_
  refine x_iconst (M := M_X12_writeWords) dX12_writeWords_18 ?_
  refine y_callVR (M := M_X12_writeWords) (M' := M_X12_fails) rfl rfl dX12_writeWords_19 m_X12_fails t_2805 t_2807 s_157 (q22 hl w972) rfl rfl w972 rfl (Nat.le_of_ble_eq_true rfl) (Nat.le_of_ble_eq_true rfl) (Nat.le_of_ble_eq_true rfl) (Nat.le_of_ble_eq_true rfl) (fun h974 f975 w976 => ?_)
  obtain ⟨o977, -⟩ := w976
  refine x_if_ne (M := M_X12_writeWords) (tgt := 46) dX12_writeWords_22 (by decide) (fun _ => ?_) (fun q => absurd q (by decide +kernel))
  refine x_iconst (M := M_X12_writeWords) dX12_writeWords_46 ?_
  exact x_iret (M := M_X12_writeWords) dX12_writeWords_47 rfl ⟨rfl, (fr_tr f975 (by decide) (fr_tr f973 (by decide) fr_rf)), ⟨o977, trivial⟩⟩ (Nat.le_of_ble_eq_true rfl) (Nat.le_of_ble_eq_true rfl)
set_option maxRecDepth 10000 in
theorem lc6_2 {l : Launch} {E : EE} (hl : l.stackTraces = false) (nm : String) {xs : Nat → Int32} (hx : E.2.2.2.2 0 = some (7, xs)) {h : HP} {a0 : Int32} {dg : Int32} (e2 : xs 2 = a0) (c0 : ¬ (a0.toInt < 0)) (c1 : ¬ (a0.toInt < 32)) (o966 : ob h 32 = some (.inr (14, [.ref 33, .ref 162, .ref 166, .int (0 : Int32), .int (0 : Int32), .int (0 : Int32), .ref 167, .ref 170, .ref 173, .ref 177, .ref 193, .ref 208, .ref 222, .ref 238, .ref 252, .ref 274, .ref 275, .ref 276, .int (0 : Int32)]))) (o979 : ob h 277 = some (.inr (15, (RB dg)))) : XX l E (M_law nm) 1312 342628 8074320 (fun o _ => o = .inl (some (.int 1))) 533 [some (.ref 0), some (.ref 32), some (.ref 277), some (.ref 359), some (.int (Int32.ofInt 1)), none, none, none] [] h 328 2463747 := by
  refine x_aload_n (M := (M_law nm)) dL_law_533 rfl ?_
  refine x_aload_n (M := (M_law nm)) dL_law_534 rfl ?_
  refine x_iload (M := (M_law nm)) dL_law_535 rfl ?_
  refine x_iconst (M := (M_law nm)) dL_law_537 ?_
  refine x_iadd (M := (M_law nm)) dL_law_538 ?_
  refine x_sald (M := (M_law nm)) dL_law_539 (by decide) hx (vp_inD (by decide +kernel)) ?_
  refine x_top (M := (M_law nm)) (y := a0) ((congrArg xs (by decide +kernel : ((Int32.ofInt 1) + (Int32.ofInt 1)).toNatClampNeg = 2)).trans e2) ?_
  refine x_aload_n (M := (M_law nm)) dL_law_540 rfl ?_
  refine y_callSW (M := (M_law nm)) (M' := M_L_writeWords) rfl rfl dL_law_541 m_L_writeWords t_1040 t_1041 (q965 hl c0 c1 o966) rfl rfl (Nat.le_of_ble_eq_true rfl) (Nat.le_of_ble_eq_true rfl) (Nat.le_of_ble_eq_true rfl) (Nat.le_of_ble_eq_true rfl) (fun h967 f968 w969 => ?_)
  refine x_istore (M := (M_law nm)) dL_law_544 (Nat.le_of_ble_eq_true rfl) rfl ?_
  refine x_aload_n (M := (M_law nm)) dL_law_546 rfl ?_
  refine x_aload_n (M := (M_law nm)) dL_law_547 rfl ?_
  refine x_iload (M := (M_law nm)) dL_law_548 rfl ?_
  refine x_iconst (M := (M_law nm)) dL_law_550 ?_
  refine x_iadd (M := (M_law nm)) dL_law_551 ?_
  refine x_sald (M := (M_law nm)) dL_law_552 (by decide) hx (vp_inD (by decide +kernel)) ?_
  refine x_top (M := (M_law nm)) (y := a0) ((congrArg xs (by decide +kernel : ((Int32.ofInt 1) + (Int32.ofInt 1)).toNatClampNeg = 2)).trans e2) ?_
  have o980 := (f968 277 _ (by decide) o979)
  refine y_callVR (M := (M_law nm)) (M' := M_X12_writeWords) rfl rfl dL_law_553 m_X12_writeWords t_3029 t_3030 t_3031 (q978 hl c0 c1 o980) rfl rfl o980 rfl (Nat.le_of_ble_eq_true rfl) (Nat.le_of_ble_eq_true rfl) (Nat.le_of_ble_eq_true rfl) (Nat.le_of_ble_eq_true rfl) (fun h981 f982 w983 => ?_)
  obtain ⟨o984, -⟩ := w983
  refine x_istore (M := (M_law nm)) dL_law_556 (Nat.le_of_ble_eq_true rfl) rfl ?_
  refine x_aload_n (M := (M_law nm)) dL_law_558 rfl ?_
  refine x_callVR (M := (M_law nm)) (M' := M_X12_thrown) rfl rfl dL_law_559 m_X12_thrown t_2797 t_2798 t_2799 (q35 hl o984) rfl rfl o984 rfl (Nat.le_of_ble_eq_true rfl) (Nat.le_of_ble_eq_true rfl) (Nat.le_of_ble_eq_true rfl) (Nat.le_of_ble_eq_true rfl) ?_
  refine x_iload (M := (M_law nm)) dL_law_562 rfl ?_
  refine x_icmp_eq (M := (M_law nm)) (tgt := 569) dL_law_564 (by decide) (fun _ => ?_) (fun q => absurd q (by decide +kernel))
  refine x_iload (M := (M_law nm)) dL_law_569 rfl ?_
  refine x_if_ne (M := (M_law nm)) (tgt := 586) dL_law_571 (by decide) (fun _ => ?_) (fun q => absurd q (by decide +kernel))
  refine x_goto (M := (M_law nm)) (tgt := 2449) dL_law_586 (by decide) ?_
  refine x_iinc (M := (M_law nm)) dL_law_2449 rfl (Nat.le_of_ble_eq_true rfl) rfl ?_
  refine x_lvs (M := (M_law nm)) (lv' := [some (.ref 0), some (.ref 32), some (.ref 277), some (.ref 359), some (.int (Int32.ofInt 7)), some (.int (Int32.ofInt 1)), some (.int (Int32.ofInt 0)), none]) (by rw [(by decide +kernel : (Int32.ofInt 1) + Int32.ofInt 6 = (Int32.ofInt 7))] <;> rfl) ?_
  refine x_goto (M := (M_law nm)) (tgt := 33) dL_law_2452 (by decide) ?_
  refine x_iload (M := (M_law nm)) dL_law_33 rfl ?_
  refine x_aload_n (M := (M_law nm)) dL_law_35 rfl ?_
  refine x_slen (M := (M_law nm)) dL_law_36 (by decide) hx ?_
  refine x_bipush (M := (M_law nm)) dL_law_37 ?_
  refine x_isub (M := (M_law nm)) dL_law_39 ?_
  refine x_icmp_gt (M := (M_law nm)) (tgt := 2455) dL_law_40 (by decide) (fun _ => ?_) (fun q => absurd q (by decide +kernel))
  refine x_iconst (M := (M_law nm)) dL_law_2455 ?_
  exact x_zret (M := (M_law nm)) dL_law_2456 rfl (by decide) rfl (Nat.le_of_ble_eq_true rfl) (Nat.le_of_ble_eq_true rfl)
theorem lop6 {l : Launch} {E : EE} (hl : l.stackTraces = false) (nm : String) {xs : Nat → Int32} (hx : E.2.2.2.2 0 = some (7, xs)) (dg : Int32) : XX l E (M_law nm) 1312 342628 8074320 (fun o _ => o = .inl (some (.int 1))) 533 [some (.ref 0), some (.ref 32), some (.ref 277), some (.ref 359), some (.int (Int32.ofInt 1)), none, none, none] [] (HH dg) 328 2463747 := by
  obtain ⟨a0, e2⟩ : ∃ a : Int32, xs 2 = a := ⟨_, rfl⟩
  obtain ⟨a1, e3⟩ : ∃ a : Int32, xs 3 = a := ⟨_, rfl⟩
  obtain ⟨a2, e4⟩ : ∃ a : Int32, xs 4 = a := ⟨_, rfl⟩
  obtain ⟨a3, e5⟩ : ∃ a : Int32, xs 5 = a := ⟨_, rfl⟩
  obtain ⟨a4, e6⟩ : ∃ a : Int32, xs 6 = a := ⟨_, rfl⟩
  by_cases c0 : a0.toInt < 0
  · exact lc6_0 hl nm hx e2 c0 (o_32 dg) (o_277b dg)
  · by_cases c1 : a0.toInt < 32
    · have n_a0 : a0.toNatClampNeg < 32 := nc_lt (by omega) (by decide)
      exact lc6_1 hl nm hx e2 c0 c1 (o_32 dg) (o_33 dg) (o_sh dg a0.toNatClampNeg n_a0) (o_277b dg) (oMR (dg := dg) (k := 2) rfl)
    · exact lc6_2 hl nm hx e2 c0 c1 (o_32 dg) (o_277b dg)
set_option maxRecDepth 10000 in
theorem q989 {l : Launch} {E : EE} (hl : l.stackTraces = false) {h : HP} {a0 : Int32} (c0 : a0.toInt < 0) (o985 : ob h 32 = some (.inr (14, [.ref 33, .ref 162, .ref 166, .int (0 : Int32), .int (0 : Int32), .int (0 : Int32), .ref 167, .ref 170, .ref 173, .ref 177, .ref 193, .ref 208, .ref 222, .ref 238, .ref 252, .ref 274, .ref 275, .ref 276, .int (0 : Int32)]))) : en_C l E M_X11_judge 7 1 6 [.ref 32, .int a0] h (pT "java/lang/IndexOutOfBoundsException" [] h (fun _ => True)) := by
  refine en_mk m_X11_judge rfl hl (Nat.le_of_ble_eq_true rfl) ?_
  refine x_aload_n (M := M_X11_judge) dX11_judge_0 rfl ?_
  refine x_iload_n (M := M_X11_judge) dX11_judge_1 rfl ?_
  exact y_callVX (M := M_X11_judge) (M' := M_X11_slotNumbered) rfl rfl dX11_judge_2 m_X11_slotNumbered t_744 t_746 s_2 (q392 hl c0) rfl rfl o985 rfl (Nat.le_of_ble_eq_true rfl) (Nat.le_of_ble_eq_true rfl) (Nat.le_of_ble_eq_true rfl) (Nat.le_of_ble_eq_true rfl) (fun h986 f987 w988 => ⟨rfl, (fr_tr f987 (fun _ h => nomatch h) fr_rf), trivial⟩)
set_option maxRecDepth 10000 in
theorem q994 {l : Launch} {E : EE} (hl : l.stackTraces = false) {h : HP} {a0 : Int32} (c0 : a0.toInt < 0) (o990 : ob h 32 = some (.inr (14, [.ref 33, .ref 162, .ref 166, .int (0 : Int32), .int (0 : Int32), .int (0 : Int32), .ref 167, .ref 170, .ref 173, .ref 177, .ref 193, .ref 208, .ref 222, .ref 238, .ref 252, .ref 274, .ref 275, .ref 276, .int (0 : Int32)]))) : en_C l E M_L_judge 8 1 6 [.ref 32, .int a0, .ref 359] h (pF (some (.int (Int32.ofInt 1))) [] h (fun _ => True)) := by
  refine en_mkW m_L_judge rfl hl (Nat.le_of_ble_eq_true rfl) ?_
  refine x_aload_n (M := M_L_judge) dL_judge_0 rfl ?_
  refine x_iconst (M := M_L_judge) dL_judge_1 ?_
  refine x_aload_n (M := M_L_judge) dL_judge_2 rfl ?_
  refine x_iload_n (M := M_L_judge) dL_judge_3 rfl ?_
  refine y_callVHX (M := M_L_judge) (M' := M_X11_judge) (i9 := 3) (nx := 13) rfl dL_judge_4 m_X11_judge t_1176 t_1177 t_1178 o990 rfl (q989 hl c0 o990) rfl rfl (Nat.le_of_ble_eq_true rfl) (Nat.le_of_ble_eq_true rfl) (Nat.le_of_ble_eq_true rfl) (Nat.le_of_ble_eq_true rfl) (en_hdn (k0 := 3) [] [(0, 9, 15, 13)] rfl (fun _ h => nomatch h) (by decide +kernel) (by decide) t_739 n_750 dL_judge_12) (by decide) rfl (fun h991 f992 w993 => ?_)
  refine x_iconst (M := M_L_judge) dL_judge_13 ?_
  exact x_iret (M := M_L_judge) dL_judge_14 rfl ⟨rfl, (fr_tr f992 (fun _ h => nomatch h) fr_rf), trivial⟩ (Nat.le_of_ble_eq_true rfl) (Nat.le_of_ble_eq_true rfl)
set_option maxRecDepth 10000 in
theorem q1007 {l : Launch} {E : EE} (hl : l.stackTraces = false) {h : HP} {a0 : Int32} {dg : Int32} (c0 : a0.toInt < 0) (o999 : ob h 277 = some (.inr (15, (RB dg)))) : en_C l E M_X12_judge 1 0 0 [.ref 277, .int a0] h (pF (some (.int (Int32.ofInt 0))) [277] h (fun h' => ob h' 277 = some (.inr (15, ((RB dg).set 0 (.int (Int32.ofInt 1))))) ∧ True)) := by
  refine en_mk m_X12_judge rfl hl (Nat.le_of_ble_eq_true rfl) ?_
  refine x_aload_n (M := M_X12_judge) dX12_judge_0 rfl ?_
  refine x_iconst (M := M_X12_judge) dX12_judge_1 ?_
  refine y_put (M := M_X12_judge) (ci := 15) (C := RX12) (T := TX12) (N := 135) (ty := tyX12) cl15 dX12_judge_2 o999 0 (by decide) t_2391 (Or.inl rfl) (Nat.le_of_ble_eq_true rfl) rfl (fun h1000 w1001 f1002 => ?_)
  refine x_aload_n (M := M_X12_judge) dX12_judge_5 rfl ?_
  refine x_iload_n (M := M_X12_judge) dX12_judge_6 rfl ?_
  refine x_callSR (M := M_X12_judge) (M' := M_X12_isSlot) rfl rfl dX12_judge_7 m_X12_isSlot t_2841 t_2842 (q411 hl c0) rfl rfl (Nat.le_of_ble_eq_true rfl) (Nat.le_of_ble_eq_true rfl) (Nat.le_of_ble_eq_true rfl) (Nat.le_of_ble_eq_true rfl) ?_
  refine x_if_ne (M := M_X12_judge) (tgt := 17) dX12_judge_10 (by decide) (fun q => absurd q (by decide +kernel)) (fun _ => ?_)
  refine x_iconst (M := M_X12_judge) dX12_judge_13 ?_
  refine x_goto (M := M_X12_judge) (tgt := 18) dX12_judge_14 (by decide) ?_
  refine x_iconst (M := M_X12_judge) dX12_judge_18 ?_
  refine y_callVR (M := M_X12_judge) (M' := M_X12_fails) rfl rfl dX12_judge_19 m_X12_fails t_2805 t_2807 s_157 (q22 hl w1001) rfl rfl w1001 rfl (Nat.le_of_ble_eq_true rfl) (Nat.le_of_ble_eq_true rfl) (Nat.le_of_ble_eq_true rfl) (Nat.le_of_ble_eq_true rfl) (fun h1003 f1004 w1005 => ?_)
  obtain ⟨o1006, -⟩ := w1005
  refine x_if_ne (M := M_X12_judge) (tgt := 46) dX12_judge_22 (by decide) (fun _ => ?_) (fun q => absurd q (by decide +kernel))
  refine x_iconst (M := M_X12_judge) dX12_judge_46 ?_
  exact x_iret (M := M_X12_judge) dX12_judge_47 rfl ⟨rfl, (fr_tr f1004 (by decide) (fr_tr f1002 (by decide) fr_rf)), ⟨o1006, trivial⟩⟩ (Nat.le_of_ble_eq_true rfl) (Nat.le_of_ble_eq_true rfl)
set_option maxRecDepth 10000 in
theorem lc12_0 {l : Launch} {E : EE} (hl : l.stackTraces = false) (nm : String) {xs : Nat → Int32} (hx : E.2.2.2.2 0 = some (7, xs)) {h : HP} {a0 : Int32} {dg : Int32} (e2 : xs 2 = a0) (c0 : a0.toInt < 0) (o995 : ob h 32 = some (.inr (14, [.ref 33, .ref 162, .ref 166, .int (0 : Int32), .int (0 : Int32), .int (0 : Int32), .ref 167, .ref 170, .ref 173, .ref 177, .ref 193, .ref 208, .ref 222, .ref 238, .ref 252, .ref 274, .ref 275, .ref 276, .int (0 : Int32)]))) (o1008 : ob h 277 = some (.inr (15, (RB dg)))) : XX l E (M_law nm) 1312 342628 8074320 (fun o _ => o = .inl (some (.int 1))) 919 [some (.ref 0), some (.ref 32), some (.ref 277), some (.ref 359), some (.int (Int32.ofInt 1)), none, none, none] [] h 328 2463747 := by
  refine x_aload_n (M := (M_law nm)) dL_law_919 rfl ?_
  refine x_aload_n (M := (M_law nm)) dL_law_920 rfl ?_
  refine x_iload (M := (M_law nm)) dL_law_921 rfl ?_
  refine x_iconst (M := (M_law nm)) dL_law_923 ?_
  refine x_iadd (M := (M_law nm)) dL_law_924 ?_
  refine x_sald (M := (M_law nm)) dL_law_925 (by decide) hx (vp_inD (by decide +kernel)) ?_
  refine x_top (M := (M_law nm)) (y := a0) ((congrArg xs (by decide +kernel : ((Int32.ofInt 1) + (Int32.ofInt 1)).toNatClampNeg = 2)).trans e2) ?_
  refine x_aload_n (M := (M_law nm)) dL_law_926 rfl ?_
  refine y_callSW (M := (M_law nm)) (M' := M_L_judge) rfl rfl dL_law_927 m_L_judge t_1173 t_1174 (q994 hl c0 o995) rfl rfl (Nat.le_of_ble_eq_true rfl) (Nat.le_of_ble_eq_true rfl) (Nat.le_of_ble_eq_true rfl) (Nat.le_of_ble_eq_true rfl) (fun h996 f997 w998 => ?_)
  refine x_istore (M := (M_law nm)) dL_law_930 (Nat.le_of_ble_eq_true rfl) rfl ?_
  refine x_aload_n (M := (M_law nm)) dL_law_932 rfl ?_
  refine x_aload_n (M := (M_law nm)) dL_law_933 rfl ?_
  refine x_iload (M := (M_law nm)) dL_law_934 rfl ?_
  refine x_iconst (M := (M_law nm)) dL_law_936 ?_
  refine x_iadd (M := (M_law nm)) dL_law_937 ?_
  refine x_sald (M := (M_law nm)) dL_law_938 (by decide) hx (vp_inD (by decide +kernel)) ?_
  refine x_top (M := (M_law nm)) (y := a0) ((congrArg xs (by decide +kernel : ((Int32.ofInt 1) + (Int32.ofInt 1)).toNatClampNeg = 2)).trans e2) ?_
  have o1009 := (f997 277 _ (by decide) o1008)
  refine y_callVR (M := (M_law nm)) (M' := M_X12_judge) rfl rfl dL_law_939 m_X12_judge t_3214 t_3215 t_3216 (q1007 hl c0 o1009) rfl rfl o1009 rfl (Nat.le_of_ble_eq_true rfl) (Nat.le_of_ble_eq_true rfl) (Nat.le_of_ble_eq_true rfl) (Nat.le_of_ble_eq_true rfl) (fun h1010 f1011 w1012 => ?_)
  obtain ⟨o1013, -⟩ := w1012
  refine x_istore (M := (M_law nm)) dL_law_942 (Nat.le_of_ble_eq_true rfl) rfl ?_
  refine x_aload_n (M := (M_law nm)) dL_law_944 rfl ?_
  refine x_callVR (M := (M_law nm)) (M' := M_X12_thrown) rfl rfl dL_law_945 m_X12_thrown t_2797 t_2798 t_2799 (q35 hl o1013) rfl rfl o1013 rfl (Nat.le_of_ble_eq_true rfl) (Nat.le_of_ble_eq_true rfl) (Nat.le_of_ble_eq_true rfl) (Nat.le_of_ble_eq_true rfl) ?_
  refine x_iload (M := (M_law nm)) dL_law_948 rfl ?_
  refine x_icmp_eq (M := (M_law nm)) (tgt := 955) dL_law_950 (by decide) (fun _ => ?_) (fun q => absurd q (by decide +kernel))
  refine x_iload (M := (M_law nm)) dL_law_955 rfl ?_
  refine x_if_ne (M := (M_law nm)) (tgt := 972) dL_law_957 (by decide) (fun _ => ?_) (fun q => absurd q (by decide +kernel))
  refine x_goto (M := (M_law nm)) (tgt := 2449) dL_law_972 (by decide) ?_
  refine x_iinc (M := (M_law nm)) dL_law_2449 rfl (Nat.le_of_ble_eq_true rfl) rfl ?_
  refine x_lvs (M := (M_law nm)) (lv' := [some (.ref 0), some (.ref 32), some (.ref 277), some (.ref 359), some (.int (Int32.ofInt 7)), some (.int (Int32.ofInt 1)), some (.int (Int32.ofInt 0)), none]) (by rw [(by decide +kernel : (Int32.ofInt 1) + Int32.ofInt 6 = (Int32.ofInt 7))] <;> rfl) ?_
  refine x_goto (M := (M_law nm)) (tgt := 33) dL_law_2452 (by decide) ?_
  refine x_iload (M := (M_law nm)) dL_law_33 rfl ?_
  refine x_aload_n (M := (M_law nm)) dL_law_35 rfl ?_
  refine x_slen (M := (M_law nm)) dL_law_36 (by decide) hx ?_
  refine x_bipush (M := (M_law nm)) dL_law_37 ?_
  refine x_isub (M := (M_law nm)) dL_law_39 ?_
  refine x_icmp_gt (M := (M_law nm)) (tgt := 2455) dL_law_40 (by decide) (fun _ => ?_) (fun q => absurd q (by decide +kernel))
  refine x_iconst (M := (M_law nm)) dL_law_2455 ?_
  exact x_zret (M := (M_law nm)) dL_law_2456 rfl (by decide) rfl (Nat.le_of_ble_eq_true rfl) (Nat.le_of_ble_eq_true rfl)
set_option maxRecDepth 10000 in
theorem q1020 {l : Launch} {E : EE} (hl : l.stackTraces = false) {h : HP} {a0 : Int32} (c0 : ¬ (a0.toInt < 0)) (c1 : a0.toInt < 32) (o1014 : ob h 32 = some (.inr (14, [.ref 33, .ref 162, .ref 166, .int (0 : Int32), .int (0 : Int32), .int (0 : Int32), .ref 167, .ref 170, .ref 173, .ref 177, .ref 193, .ref 208, .ref 222, .ref 238, .ref 252, .ref 274, .ref 275, .ref 276, .int (0 : Int32)]))) (o1015 : ob h 33 = some (.inl (4, 32, .inr (.inr (.inr (.inr (shf 1 32))))))) (o1016 : ob h (34 + 4 * a0.toNatClampNeg) = some (.inr (9, [.ref (35 + 4 * a0.toNatClampNeg), .ref (36 + 4 * a0.toNatClampNeg), .ref (37 + 4 * a0.toNatClampNeg), .int (0 : Int32), .int (0 : Int32)]))) : en_C l E M_X11_judge 7 1 6 [.ref 32, .int a0] h (pT "java/lang/IllegalStateException" [] h (fun _ => True)) := by
  have n_a0 : a0.toNatClampNeg < 32 := nc_lt (by omega) (by decide)
  refine en_mk m_X11_judge rfl hl (Nat.le_of_ble_eq_true rfl) ?_
  refine x_aload_n (M := M_X11_judge) dX11_judge_0 rfl ?_
  refine x_iload_n (M := M_X11_judge) dX11_judge_1 rfl ?_
  refine x_callVR (M := M_X11_judge) (M' := M_X11_slotNumbered) rfl rfl dX11_judge_2 m_X11_slotNumbered t_744 t_746 s_2 (q425 hl c0 c1 o1014 o1015) rfl rfl o1014 rfl (Nat.le_of_ble_eq_true rfl) (Nat.le_of_ble_eq_true rfl) (Nat.le_of_ble_eq_true rfl) (Nat.le_of_ble_eq_true rfl) ?_
  refine x_astore_n (M := M_X11_judge) dX11_judge_5 (Nat.le_of_ble_eq_true rfl) rfl ?_
  refine x_aload_n (M := M_X11_judge) dX11_judge_6 rfl ?_
  exact y_callSX (M := M_X11_judge) (M' := M_X11_mustBeThere) rfl rfl dX11_judge_7 m_X11_mustBeThere t_1047 t_1048 (q810 hl c0 c1 o1016) rfl rfl (Nat.le_of_ble_eq_true rfl) (Nat.le_of_ble_eq_true rfl) (Nat.le_of_ble_eq_true rfl) (Nat.le_of_ble_eq_true rfl) (fun h1017 f1018 w1019 => ⟨rfl, (fr_tr f1018 (fun _ h => nomatch h) fr_rf), trivial⟩)
set_option maxRecDepth 10000 in
theorem q1027 {l : Launch} {E : EE} (hl : l.stackTraces = false) {h : HP} {a0 : Int32} (c0 : ¬ (a0.toInt < 0)) (c1 : a0.toInt < 32) (o1021 : ob h 32 = some (.inr (14, [.ref 33, .ref 162, .ref 166, .int (0 : Int32), .int (0 : Int32), .int (0 : Int32), .ref 167, .ref 170, .ref 173, .ref 177, .ref 193, .ref 208, .ref 222, .ref 238, .ref 252, .ref 274, .ref 275, .ref 276, .int (0 : Int32)]))) (o1022 : ob h 33 = some (.inl (4, 32, .inr (.inr (.inr (.inr (shf 1 32))))))) (o1023 : ob h (34 + 4 * a0.toNatClampNeg) = some (.inr (9, [.ref (35 + 4 * a0.toNatClampNeg), .ref (36 + 4 * a0.toNatClampNeg), .ref (37 + 4 * a0.toNatClampNeg), .int (0 : Int32), .int (0 : Int32)]))) : en_C l E M_L_judge 8 1 6 [.ref 32, .int a0, .ref 359] h (pF (some (.int (Int32.ofInt 2))) [] h (fun _ => True)) := by
  have n_a0 : a0.toNatClampNeg < 32 := nc_lt (by omega) (by decide)
  refine en_mkW m_L_judge rfl hl (Nat.le_of_ble_eq_true rfl) ?_
  refine x_aload_n (M := M_L_judge) dL_judge_0 rfl ?_
  refine x_iconst (M := M_L_judge) dL_judge_1 ?_
  refine x_aload_n (M := M_L_judge) dL_judge_2 rfl ?_
  refine x_iload_n (M := M_L_judge) dL_judge_3 rfl ?_
  refine y_callVHX (M := M_L_judge) (M' := M_X11_judge) (i9 := 3) (nx := 16) rfl dL_judge_4 m_X11_judge t_1176 t_1177 t_1178 o1021 rfl (q1020 hl c0 c1 o1021 o1022 o1023) rfl rfl (Nat.le_of_ble_eq_true rfl) (Nat.le_of_ble_eq_true rfl) (Nat.le_of_ble_eq_true rfl) (Nat.le_of_ble_eq_true rfl) (en_hdn (k0 := 3) [(0, 9, 12, 24)] [] rfl (List.forall_mem_cons.mpr ⟨⟨by decide, "java/lang/IndexOutOfBoundsException", t_739, by decide +kernel, by decide +kernel, by decide +kernel⟩, (fun _ h => nomatch h)⟩) (by decide +kernel) (by decide) t_637 n_645 dL_judge_15) (by decide) rfl (fun h1024 f1025 w1026 => ?_)
  refine x_iconst (M := M_L_judge) dL_judge_16 ?_
  exact x_iret (M := M_L_judge) dL_judge_17 rfl ⟨rfl, (fr_tr f1025 (fun _ h => nomatch h) fr_rf), trivial⟩ (Nat.le_of_ble_eq_true rfl) (Nat.le_of_ble_eq_true rfl)
set_option maxRecDepth 10000 in
theorem q1048 {l : Launch} {E : EE} (hl : l.stackTraces = false) {h : HP} {a0 : Int32} {dg : Int32} (c0 : ¬ (a0.toInt < 0)) (c1 : a0.toInt < 32) (o1034 : ob h 277 = some (.inr (15, (RB dg)))) (o1042 : ob h 280 = some (.inl (0, 33, .inl (fun _ => 0)))) : en_C l E M_X12_judge 1 0 0 [.ref 277, .int a0] h (pF (some (.int (Int32.ofInt 0))) [277] h (fun h' => ob h' 277 = some (.inr (15, ((RB dg).set 0 (.int (Int32.ofInt 2))))) ∧ True)) := by
  refine en_mk m_X12_judge rfl hl (Nat.le_of_ble_eq_true rfl) ?_
  refine x_aload_n (M := M_X12_judge) dX12_judge_0 rfl ?_
  refine x_iconst (M := M_X12_judge) dX12_judge_1 ?_
  refine y_put (M := M_X12_judge) (ci := 15) (C := RX12) (T := TX12) (N := 135) (ty := tyX12) cl15 dX12_judge_2 o1034 0 (by decide) t_2391 (Or.inl rfl) (Nat.le_of_ble_eq_true rfl) rfl (fun h1035 w1036 f1037 => ?_)
  refine x_aload_n (M := M_X12_judge) dX12_judge_5 rfl ?_
  refine x_iload_n (M := M_X12_judge) dX12_judge_6 rfl ?_
  refine x_callSR (M := M_X12_judge) (M' := M_X12_isSlot) rfl rfl dX12_judge_7 m_X12_isSlot t_2841 t_2842 (q447 hl c0 c1) rfl rfl (Nat.le_of_ble_eq_true rfl) (Nat.le_of_ble_eq_true rfl) (Nat.le_of_ble_eq_true rfl) (Nat.le_of_ble_eq_true rfl) ?_
  refine x_if_ne (M := M_X12_judge) (tgt := 17) dX12_judge_10 (by decide) (fun _ => ?_) (fun q => absurd q (by decide +kernel))
  refine x_iconst (M := M_X12_judge) dX12_judge_17 ?_
  refine x_iconst (M := M_X12_judge) dX12_judge_18 ?_
  refine y_callVR (M := M_X12_judge) (M' := M_X12_fails) rfl rfl dX12_judge_19 m_X12_fails t_2805 t_2807 s_157 (q241 hl w1036) rfl rfl w1036 rfl (Nat.le_of_ble_eq_true rfl) (Nat.le_of_ble_eq_true rfl) (Nat.le_of_ble_eq_true rfl) (Nat.le_of_ble_eq_true rfl) (fun h1038 f1039 w1040 => ?_)
  obtain ⟨o1041, -⟩ := w1040
  refine x_if_ne (M := M_X12_judge) (tgt := 46) dX12_judge_22 (by decide) (fun q => absurd q (by decide +kernel)) (fun _ => ?_)
  refine x_aload_n (M := M_X12_judge) dX12_judge_25 rfl ?_
  refine x_aload_n (M := M_X12_judge) dX12_judge_26 rfl ?_
  refine x_iload_n (M := M_X12_judge) dX12_judge_27 rfl ?_
  have o1043 := (f1039 280 _ (by decide) (f1037 280 _ (by decide) o1042))
  refine x_callVR (M := M_X12_judge) (M' := M_X12_has) rfl rfl dX12_judge_28 m_X12_has t_3033 t_3035 s_197 (q839 hl c0 c1 o1041 o1043) rfl rfl o1041 rfl (Nat.le_of_ble_eq_true rfl) (Nat.le_of_ble_eq_true rfl) (Nat.le_of_ble_eq_true rfl) (Nat.le_of_ble_eq_true rfl) ?_
  refine x_if_ne (M := M_X12_judge) (tgt := 38) dX12_judge_31 (by decide) (fun q => absurd q (by decide +kernel)) (fun _ => ?_)
  refine x_iconst (M := M_X12_judge) dX12_judge_34 ?_
  refine x_goto (M := M_X12_judge) (tgt := 39) dX12_judge_35 (by decide) ?_
  refine x_iconst (M := M_X12_judge) dX12_judge_39 ?_
  refine y_callVR (M := M_X12_judge) (M' := M_X12_fails) rfl rfl dX12_judge_40 m_X12_fails t_2805 t_2807 s_157 (q761 hl o1041) rfl rfl o1041 rfl (Nat.le_of_ble_eq_true rfl) (Nat.le_of_ble_eq_true rfl) (Nat.le_of_ble_eq_true rfl) (Nat.le_of_ble_eq_true rfl) (fun h1044 f1045 w1046 => ?_)
  obtain ⟨o1047, -⟩ := w1046
  refine x_if_eq (M := M_X12_judge) (tgt := 48) dX12_judge_43 (by decide) (fun q => absurd q (by decide +kernel)) (fun _ => ?_)
  refine x_iconst (M := M_X12_judge) dX12_judge_46 ?_
  exact x_iret (M := M_X12_judge) dX12_judge_47 rfl ⟨rfl, (fr_tr f1045 (by decide) (fr_tr f1039 (by decide) (fr_tr f1037 (by decide) fr_rf))), ⟨o1047, trivial⟩⟩ (Nat.le_of_ble_eq_true rfl) (Nat.le_of_ble_eq_true rfl)
set_option maxRecDepth 10000 in
theorem lc12_1 {l : Launch} {E : EE} (hl : l.stackTraces = false) (nm : String) {xs : Nat → Int32} (hx : E.2.2.2.2 0 = some (7, xs)) {h : HP} {a0 : Int32} {dg : Int32} (e2 : xs 2 = a0) (c0 : ¬ (a0.toInt < 0)) (c1 : a0.toInt < 32) (o1028 : ob h 32 = some (.inr (14, [.ref 33, .ref 162, .ref 166, .int (0 : Int32), .int (0 : Int32), .int (0 : Int32), .ref 167, .ref 170, .ref 173, .ref 177, .ref 193, .ref 208, .ref 222, .ref 238, .ref 252, .ref 274, .ref 275, .ref 276, .int (0 : Int32)]))) (o1029 : ob h 33 = some (.inl (4, 32, .inr (.inr (.inr (.inr (shf 1 32))))))) (o1030 : ob h (34 + 4 * a0.toNatClampNeg) = some (.inr (9, [.ref (35 + 4 * a0.toNatClampNeg), .ref (36 + 4 * a0.toNatClampNeg), .ref (37 + 4 * a0.toNatClampNeg), .int (0 : Int32), .int (0 : Int32)]))) (o1049 : ob h 277 = some (.inr (15, (RB dg)))) (o1051 : ob h 280 = some (.inl (0, 33, .inl (fun _ => 0)))) : XX l E (M_law nm) 1312 342628 8074320 (fun o _ => o = .inl (some (.int 1))) 919 [some (.ref 0), some (.ref 32), some (.ref 277), some (.ref 359), some (.int (Int32.ofInt 1)), none, none, none] [] h 328 2463747 := by
  have n_a0 : a0.toNatClampNeg < 32 := nc_lt (by omega) (by decide)
  refine x_aload_n (M := (M_law nm)) dL_law_919 rfl ?_
  refine x_aload_n (M := (M_law nm)) dL_law_920 rfl ?_
  refine x_iload (M := (M_law nm)) dL_law_921 rfl ?_
  refine x_iconst (M := (M_law nm)) dL_law_923 ?_
  refine x_iadd (M := (M_law nm)) dL_law_924 ?_
  refine x_sald (M := (M_law nm)) dL_law_925 (by decide) hx (vp_inD (by decide +kernel)) ?_
  refine x_top (M := (M_law nm)) (y := a0) ((congrArg xs (by decide +kernel : ((Int32.ofInt 1) + (Int32.ofInt 1)).toNatClampNeg = 2)).trans e2) ?_
  refine x_aload_n (M := (M_law nm)) dL_law_926 rfl ?_
  refine y_callSW (M := (M_law nm)) (M' := M_L_judge) rfl rfl dL_law_927 m_L_judge t_1173 t_1174 (q1027 hl c0 c1 o1028 o1029 o1030) rfl rfl (Nat.le_of_ble_eq_true rfl) (Nat.le_of_ble_eq_true rfl) (Nat.le_of_ble_eq_true rfl) (Nat.le_of_ble_eq_true rfl) (fun h1031 f1032 w1033 => ?_)
  refine x_istore (M := (M_law nm)) dL_law_930 (Nat.le_of_ble_eq_true rfl) rfl ?_
  refine x_aload_n (M := (M_law nm)) dL_law_932 rfl ?_
  refine x_aload_n (M := (M_law nm)) dL_law_933 rfl ?_
  refine x_iload (M := (M_law nm)) dL_law_934 rfl ?_
  refine x_iconst (M := (M_law nm)) dL_law_936 ?_
  refine x_iadd (M := (M_law nm)) dL_law_937 ?_
  refine x_sald (M := (M_law nm)) dL_law_938 (by decide) hx (vp_inD (by decide +kernel)) ?_
  refine x_top (M := (M_law nm)) (y := a0) ((congrArg xs (by decide +kernel : ((Int32.ofInt 1) + (Int32.ofInt 1)).toNatClampNeg = 2)).trans e2) ?_
  have o1050 := (f1032 277 _ (by decide) o1049)
  have o1052 := (f1032 280 _ (by decide) o1051)
  refine y_callVR (M := (M_law nm)) (M' := M_X12_judge) rfl rfl dL_law_939 m_X12_judge t_3214 t_3215 t_3216 (q1048 hl c0 c1 o1050 o1052) rfl rfl o1050 rfl (Nat.le_of_ble_eq_true rfl) (Nat.le_of_ble_eq_true rfl) (Nat.le_of_ble_eq_true rfl) (Nat.le_of_ble_eq_true rfl) (fun h1053 f1054 w1055 => ?_)
  obtain ⟨o1056, -⟩ := w1055
  refine x_istore (M := (M_law nm)) dL_law_942 (Nat.le_of_ble_eq_true rfl) rfl ?_
  refine x_aload_n (M := (M_law nm)) dL_law_944 rfl ?_
  refine x_callVR (M := (M_law nm)) (M' := M_X12_thrown) rfl rfl dL_law_945 m_X12_thrown t_2797 t_2798 t_2799 (q774 hl o1056) rfl rfl o1056 rfl (Nat.le_of_ble_eq_true rfl) (Nat.le_of_ble_eq_true rfl) (Nat.le_of_ble_eq_true rfl) (Nat.le_of_ble_eq_true rfl) ?_
  refine x_iload (M := (M_law nm)) dL_law_948 rfl ?_
  refine x_icmp_eq (M := (M_law nm)) (tgt := 955) dL_law_950 (by decide) (fun _ => ?_) (fun q => absurd q (by decide +kernel))
  refine x_iload (M := (M_law nm)) dL_law_955 rfl ?_
  refine x_if_ne (M := (M_law nm)) (tgt := 972) dL_law_957 (by decide) (fun _ => ?_) (fun q => absurd q (by decide +kernel))
  refine x_goto (M := (M_law nm)) (tgt := 2449) dL_law_972 (by decide) ?_
  refine x_iinc (M := (M_law nm)) dL_law_2449 rfl (Nat.le_of_ble_eq_true rfl) rfl ?_
  refine x_lvs (M := (M_law nm)) (lv' := [some (.ref 0), some (.ref 32), some (.ref 277), some (.ref 359), some (.int (Int32.ofInt 7)), some (.int (Int32.ofInt 2)), some (.int (Int32.ofInt 0)), none]) (by rw [(by decide +kernel : (Int32.ofInt 1) + Int32.ofInt 6 = (Int32.ofInt 7))] <;> rfl) ?_
  refine x_goto (M := (M_law nm)) (tgt := 33) dL_law_2452 (by decide) ?_
  refine x_iload (M := (M_law nm)) dL_law_33 rfl ?_
  refine x_aload_n (M := (M_law nm)) dL_law_35 rfl ?_
  refine x_slen (M := (M_law nm)) dL_law_36 (by decide) hx ?_
  refine x_bipush (M := (M_law nm)) dL_law_37 ?_
  refine x_isub (M := (M_law nm)) dL_law_39 ?_
  refine x_icmp_gt (M := (M_law nm)) (tgt := 2455) dL_law_40 (by decide) (fun _ => ?_) (fun q => absurd q (by decide +kernel))
  refine x_iconst (M := (M_law nm)) dL_law_2455 ?_
  exact x_zret (M := (M_law nm)) dL_law_2456 rfl (by decide) rfl (Nat.le_of_ble_eq_true rfl) (Nat.le_of_ble_eq_true rfl)
set_option maxRecDepth 10000 in
theorem q1061 {l : Launch} {E : EE} (hl : l.stackTraces = false) {h : HP} {a0 : Int32} (c0 : ¬ (a0.toInt < 0)) (c1 : ¬ (a0.toInt < 32)) (o1057 : ob h 32 = some (.inr (14, [.ref 33, .ref 162, .ref 166, .int (0 : Int32), .int (0 : Int32), .int (0 : Int32), .ref 167, .ref 170, .ref 173, .ref 177, .ref 193, .ref 208, .ref 222, .ref 238, .ref 252, .ref 274, .ref 275, .ref 276, .int (0 : Int32)]))) : en_C l E M_X11_judge 7 1 6 [.ref 32, .int a0] h (pT "java/lang/IndexOutOfBoundsException" [] h (fun _ => True)) := by
  refine en_mk m_X11_judge rfl hl (Nat.le_of_ble_eq_true rfl) ?_
  refine x_aload_n (M := M_X11_judge) dX11_judge_0 rfl ?_
  refine x_iload_n (M := M_X11_judge) dX11_judge_1 rfl ?_
  exact y_callVX (M := M_X11_judge) (M' := M_X11_slotNumbered) rfl rfl dX11_judge_2 m_X11_slotNumbered t_744 t_746 s_2 (q511 hl c0 c1) rfl rfl o1057 rfl (Nat.le_of_ble_eq_true rfl) (Nat.le_of_ble_eq_true rfl) (Nat.le_of_ble_eq_true rfl) (Nat.le_of_ble_eq_true rfl) (fun h1058 f1059 w1060 => ⟨rfl, (fr_tr f1059 (fun _ h => nomatch h) fr_rf), trivial⟩)
set_option maxRecDepth 10000 in
theorem q1066 {l : Launch} {E : EE} (hl : l.stackTraces = false) {h : HP} {a0 : Int32} (c0 : ¬ (a0.toInt < 0)) (c1 : ¬ (a0.toInt < 32)) (o1062 : ob h 32 = some (.inr (14, [.ref 33, .ref 162, .ref 166, .int (0 : Int32), .int (0 : Int32), .int (0 : Int32), .ref 167, .ref 170, .ref 173, .ref 177, .ref 193, .ref 208, .ref 222, .ref 238, .ref 252, .ref 274, .ref 275, .ref 276, .int (0 : Int32)]))) : en_C l E M_L_judge 8 1 6 [.ref 32, .int a0, .ref 359] h (pF (some (.int (Int32.ofInt 1))) [] h (fun _ => True)) := by
  refine en_mkW m_L_judge rfl hl (Nat.le_of_ble_eq_true rfl) ?_
  refine x_aload_n (M := M_L_judge) dL_judge_0 rfl ?_
  refine x_iconst (M := M_L_judge) dL_judge_1 ?_
  refine x_aload_n (M := M_L_judge) dL_judge_2 rfl ?_
  refine x_iload_n (M := M_L_judge) dL_judge_3 rfl ?_
  refine y_callVHX (M := M_L_judge) (M' := M_X11_judge) (i9 := 3) (nx := 13) rfl dL_judge_4 m_X11_judge t_1176 t_1177 t_1178 o1062 rfl (q1061 hl c0 c1 o1062) rfl rfl (Nat.le_of_ble_eq_true rfl) (Nat.le_of_ble_eq_true rfl) (Nat.le_of_ble_eq_true rfl) (Nat.le_of_ble_eq_true rfl) (en_hdn (k0 := 3) [] [(0, 9, 15, 13)] rfl (fun _ h => nomatch h) (by decide +kernel) (by decide) t_739 n_750 dL_judge_12) (by decide) rfl (fun h1063 f1064 w1065 => ?_)
  refine x_iconst (M := M_L_judge) dL_judge_13 ?_
  exact x_iret (M := M_L_judge) dL_judge_14 rfl ⟨rfl, (fr_tr f1064 (fun _ h => nomatch h) fr_rf), trivial⟩ (Nat.le_of_ble_eq_true rfl) (Nat.le_of_ble_eq_true rfl)
set_option maxRecDepth 10000 in
theorem q1079 {l : Launch} {E : EE} (hl : l.stackTraces = false) {h : HP} {a0 : Int32} {dg : Int32} (c0 : ¬ (a0.toInt < 0)) (c1 : ¬ (a0.toInt < 32)) (o1071 : ob h 277 = some (.inr (15, (RB dg)))) : en_C l E M_X12_judge 1 0 0 [.ref 277, .int a0] h (pF (some (.int (Int32.ofInt 0))) [277] h (fun h' => ob h' 277 = some (.inr (15, ((RB dg).set 0 (.int (Int32.ofInt 1))))) ∧ True)) := by
  refine en_mk m_X12_judge rfl hl (Nat.le_of_ble_eq_true rfl) ?_
  refine x_aload_n (M := M_X12_judge) dX12_judge_0 rfl ?_
  refine x_iconst (M := M_X12_judge) dX12_judge_1 ?_
  refine y_put (M := M_X12_judge) (ci := 15) (C := RX12) (T := TX12) (N := 135) (ty := tyX12) cl15 dX12_judge_2 o1071 0 (by decide) t_2391 (Or.inl rfl) (Nat.le_of_ble_eq_true rfl) rfl (fun h1072 w1073 f1074 => ?_)
  refine x_aload_n (M := M_X12_judge) dX12_judge_5 rfl ?_
  refine x_iload_n (M := M_X12_judge) dX12_judge_6 rfl ?_
  refine x_callSR (M := M_X12_judge) (M' := M_X12_isSlot) rfl rfl dX12_judge_7 m_X12_isSlot t_2841 t_2842 (q530 hl c0 c1) rfl rfl (Nat.le_of_ble_eq_true rfl) (Nat.le_of_ble_eq_true rfl) (Nat.le_of_ble_eq_true rfl) (Nat.le_of_ble_eq_true rfl) ?_
  refine x_if_ne (M := M_X12_judge) (tgt := 17) dX12_judge_10 (by decide) (fun q => absurd q (by decide +kernel)) (fun _ => ?_)
  refine x_iconst (M := M_X12_judge) dX12_judge_13 ?_
  refine x_goto (M := M_X12_judge) (tgt := 18) dX12_judge_14 (by decide) ?_
  refine x_iconst (M := M_X12_judge) dX12_judge_18 ?_
  refine y_callVR (M := M_X12_judge) (M' := M_X12_fails) rfl rfl dX12_judge_19 m_X12_fails t_2805 t_2807 s_157 (q22 hl w1073) rfl rfl w1073 rfl (Nat.le_of_ble_eq_true rfl) (Nat.le_of_ble_eq_true rfl) (Nat.le_of_ble_eq_true rfl) (Nat.le_of_ble_eq_true rfl) (fun h1075 f1076 w1077 => ?_)
  obtain ⟨o1078, -⟩ := w1077
  refine x_if_ne (M := M_X12_judge) (tgt := 46) dX12_judge_22 (by decide) (fun _ => ?_) (fun q => absurd q (by decide +kernel))
  refine x_iconst (M := M_X12_judge) dX12_judge_46 ?_
  exact x_iret (M := M_X12_judge) dX12_judge_47 rfl ⟨rfl, (fr_tr f1076 (by decide) (fr_tr f1074 (by decide) fr_rf)), ⟨o1078, trivial⟩⟩ (Nat.le_of_ble_eq_true rfl) (Nat.le_of_ble_eq_true rfl)
set_option maxRecDepth 10000 in
theorem lc12_2 {l : Launch} {E : EE} (hl : l.stackTraces = false) (nm : String) {xs : Nat → Int32} (hx : E.2.2.2.2 0 = some (7, xs)) {h : HP} {a0 : Int32} {dg : Int32} (e2 : xs 2 = a0) (c0 : ¬ (a0.toInt < 0)) (c1 : ¬ (a0.toInt < 32)) (o1067 : ob h 32 = some (.inr (14, [.ref 33, .ref 162, .ref 166, .int (0 : Int32), .int (0 : Int32), .int (0 : Int32), .ref 167, .ref 170, .ref 173, .ref 177, .ref 193, .ref 208, .ref 222, .ref 238, .ref 252, .ref 274, .ref 275, .ref 276, .int (0 : Int32)]))) (o1080 : ob h 277 = some (.inr (15, (RB dg)))) : XX l E (M_law nm) 1312 342628 8074320 (fun o _ => o = .inl (some (.int 1))) 919 [some (.ref 0), some (.ref 32), some (.ref 277), some (.ref 359), some (.int (Int32.ofInt 1)), none, none, none] [] h 328 2463747 := by
  refine x_aload_n (M := (M_law nm)) dL_law_919 rfl ?_
  refine x_aload_n (M := (M_law nm)) dL_law_920 rfl ?_
  refine x_iload (M := (M_law nm)) dL_law_921 rfl ?_
  refine x_iconst (M := (M_law nm)) dL_law_923 ?_
  refine x_iadd (M := (M_law nm)) dL_law_924 ?_
  refine x_sald (M := (M_law nm)) dL_law_925 (by decide) hx (vp_inD (by decide +kernel)) ?_
  refine x_top (M := (M_law nm)) (y := a0) ((congrArg xs (by decide +kernel : ((Int32.ofInt 1) + (Int32.ofInt 1)).toNatClampNeg = 2)).trans e2) ?_
  refine x_aload_n (M := (M_law nm)) dL_law_926 rfl ?_
  refine y_callSW (M := (M_law nm)) (M' := M_L_judge) rfl rfl dL_law_927 m_L_judge t_1173 t_1174 (q1066 hl c0 c1 o1067) rfl rfl (Nat.le_of_ble_eq_true rfl) (Nat.le_of_ble_eq_true rfl) (Nat.le_of_ble_eq_true rfl) (Nat.le_of_ble_eq_true rfl) (fun h1068 f1069 w1070 => ?_)
  refine x_istore (M := (M_law nm)) dL_law_930 (Nat.le_of_ble_eq_true rfl) rfl ?_
  refine x_aload_n (M := (M_law nm)) dL_law_932 rfl ?_
  refine x_aload_n (M := (M_law nm)) dL_law_933 rfl ?_
  refine x_iload (M := (M_law nm)) dL_law_934 rfl ?_
  refine x_iconst (M := (M_law nm)) dL_law_936 ?_
  refine x_iadd (M := (M_law nm)) dL_law_937 ?_
  refine x_sald (M := (M_law nm)) dL_law_938 (by decide) hx (vp_inD (by decide +kernel)) ?_
  refine x_top (M := (M_law nm)) (y := a0) ((congrArg xs (by decide +kernel : ((Int32.ofInt 1) + (Int32.ofInt 1)).toNatClampNeg = 2)).trans e2) ?_
  have o1081 := (f1069 277 _ (by decide) o1080)
  refine y_callVR (M := (M_law nm)) (M' := M_X12_judge) rfl rfl dL_law_939 m_X12_judge t_3214 t_3215 t_3216 (q1079 hl c0 c1 o1081) rfl rfl o1081 rfl (Nat.le_of_ble_eq_true rfl) (Nat.le_of_ble_eq_true rfl) (Nat.le_of_ble_eq_true rfl) (Nat.le_of_ble_eq_true rfl) (fun h1082 f1083 w1084 => ?_)
  obtain ⟨o1085, -⟩ := w1084
  refine x_istore (M := (M_law nm)) dL_law_942 (Nat.le_of_ble_eq_true rfl) rfl ?_
  refine x_aload_n (M := (M_law nm)) dL_law_944 rfl ?_
  refine x_callVR (M := (M_law nm)) (M' := M_X12_thrown) rfl rfl dL_law_945 m_X12_thrown t_2797 t_2798 t_2799 (q35 hl o1085) rfl rfl o1085 rfl (Nat.le_of_ble_eq_true rfl) (Nat.le_of_ble_eq_true rfl) (Nat.le_of_ble_eq_true rfl) (Nat.le_of_ble_eq_true rfl) ?_
  refine x_iload (M := (M_law nm)) dL_law_948 rfl ?_
  refine x_icmp_eq (M := (M_law nm)) (tgt := 955) dL_law_950 (by decide) (fun _ => ?_) (fun q => absurd q (by decide +kernel))
  refine x_iload (M := (M_law nm)) dL_law_955 rfl ?_
  refine x_if_ne (M := (M_law nm)) (tgt := 972) dL_law_957 (by decide) (fun _ => ?_) (fun q => absurd q (by decide +kernel))
  refine x_goto (M := (M_law nm)) (tgt := 2449) dL_law_972 (by decide) ?_
  refine x_iinc (M := (M_law nm)) dL_law_2449 rfl (Nat.le_of_ble_eq_true rfl) rfl ?_
  refine x_lvs (M := (M_law nm)) (lv' := [some (.ref 0), some (.ref 32), some (.ref 277), some (.ref 359), some (.int (Int32.ofInt 7)), some (.int (Int32.ofInt 1)), some (.int (Int32.ofInt 0)), none]) (by rw [(by decide +kernel : (Int32.ofInt 1) + Int32.ofInt 6 = (Int32.ofInt 7))] <;> rfl) ?_
  refine x_goto (M := (M_law nm)) (tgt := 33) dL_law_2452 (by decide) ?_
  refine x_iload (M := (M_law nm)) dL_law_33 rfl ?_
  refine x_aload_n (M := (M_law nm)) dL_law_35 rfl ?_
  refine x_slen (M := (M_law nm)) dL_law_36 (by decide) hx ?_
  refine x_bipush (M := (M_law nm)) dL_law_37 ?_
  refine x_isub (M := (M_law nm)) dL_law_39 ?_
  refine x_icmp_gt (M := (M_law nm)) (tgt := 2455) dL_law_40 (by decide) (fun _ => ?_) (fun q => absurd q (by decide +kernel))
  refine x_iconst (M := (M_law nm)) dL_law_2455 ?_
  exact x_zret (M := (M_law nm)) dL_law_2456 rfl (by decide) rfl (Nat.le_of_ble_eq_true rfl) (Nat.le_of_ble_eq_true rfl)
theorem lop12 {l : Launch} {E : EE} (hl : l.stackTraces = false) (nm : String) {xs : Nat → Int32} (hx : E.2.2.2.2 0 = some (7, xs)) (dg : Int32) : XX l E (M_law nm) 1312 342628 8074320 (fun o _ => o = .inl (some (.int 1))) 919 [some (.ref 0), some (.ref 32), some (.ref 277), some (.ref 359), some (.int (Int32.ofInt 1)), none, none, none] [] (HH dg) 328 2463747 := by
  obtain ⟨a0, e2⟩ : ∃ a : Int32, xs 2 = a := ⟨_, rfl⟩
  obtain ⟨a1, e3⟩ : ∃ a : Int32, xs 3 = a := ⟨_, rfl⟩
  obtain ⟨a2, e4⟩ : ∃ a : Int32, xs 4 = a := ⟨_, rfl⟩
  obtain ⟨a3, e5⟩ : ∃ a : Int32, xs 5 = a := ⟨_, rfl⟩
  obtain ⟨a4, e6⟩ : ∃ a : Int32, xs 6 = a := ⟨_, rfl⟩
  by_cases c0 : a0.toInt < 0
  · exact lc12_0 hl nm hx e2 c0 (o_32 dg) (o_277b dg)
  · by_cases c1 : a0.toInt < 32
    · have n_a0 : a0.toNatClampNeg < 32 := nc_lt (by omega) (by decide)
      exact lc12_1 hl nm hx e2 c0 c1 (o_32 dg) (o_33 dg) (o_sh dg a0.toNatClampNeg n_a0) (o_277b dg) (oMR (dg := dg) (k := 2) rfl)
    · exact lc12_2 hl nm hx e2 c0 c1 (o_32 dg) (o_277b dg)
set_option maxRecDepth 10000 in
theorem q1090 {l : Launch} {E : EE} (hl : l.stackTraces = false) {h : HP} {a0 : Int32} {a1 : Int32} (c0 : a0.toInt < 0) (o1086 : ob h 32 = some (.inr (14, [.ref 33, .ref 162, .ref 166, .int (0 : Int32), .int (0 : Int32), .int (0 : Int32), .ref 167, .ref 170, .ref 173, .ref 177, .ref 193, .ref 208, .ref 222, .ref 238, .ref 252, .ref 274, .ref 275, .ref 276, .int (0 : Int32)]))) : en_C l E M_X11_bounds 7 1 6 [.ref 32, .int a0, .int a1] h (pT "java/lang/IndexOutOfBoundsException" [] h (fun _ => True)) := by
  refine en_mk m_X11_bounds rfl hl (Nat.le_of_ble_eq_true rfl) ?_
  refine x_aload_n (M := M_X11_bounds) dX11_bounds_0 rfl ?_
  refine x_iload_n (M := M_X11_bounds) dX11_bounds_1 rfl ?_
  exact y_callVX (M := M_X11_bounds) (M' := M_X11_slotNumbered) rfl rfl dX11_bounds_2 m_X11_slotNumbered t_744 t_746 s_2 (q392 hl c0) rfl rfl o1086 rfl (Nat.le_of_ble_eq_true rfl) (Nat.le_of_ble_eq_true rfl) (Nat.le_of_ble_eq_true rfl) (Nat.le_of_ble_eq_true rfl) (fun h1087 f1088 w1089 => ⟨rfl, (fr_tr f1088 (fun _ h => nomatch h) fr_rf), trivial⟩)
set_option maxRecDepth 10000 in
theorem q1095 {l : Launch} {E : EE} (hl : l.stackTraces = false) {h : HP} {a0 : Int32} {a1 : Int32} (c0 : a0.toInt < 0) (o1091 : ob h 32 = some (.inr (14, [.ref 33, .ref 162, .ref 166, .int (0 : Int32), .int (0 : Int32), .int (0 : Int32), .ref 167, .ref 170, .ref 173, .ref 177, .ref 193, .ref 208, .ref 222, .ref 238, .ref 252, .ref 274, .ref 275, .ref 276, .int (0 : Int32)]))) : en_C l E M_L_bounds 8 1 6 [.ref 32, .int a0, .int a1, .ref 359] h (pF (some (.int (Int32.ofInt 1))) [] h (fun _ => True)) := by
  refine en_mkW m_L_bounds rfl hl (Nat.le_of_ble_eq_true rfl) ?_
  refine x_aload_n (M := M_L_bounds) dL_bounds_0 rfl ?_
  refine x_iconst (M := M_L_bounds) dL_bounds_1 ?_
  refine x_aload_n (M := M_L_bounds) dL_bounds_2 rfl ?_
  refine x_iload_n (M := M_L_bounds) dL_bounds_3 rfl ?_
  refine x_iload_n (M := M_L_bounds) dL_bounds_4 rfl ?_
  refine y_callVHX (M := M_L_bounds) (M' := M_X11_bounds) (i9 := 4) (nx := 15) rfl dL_bounds_5 m_X11_bounds t_2232 t_2233 t_2234 o1091 rfl (q1090 hl c0 o1091) rfl rfl (Nat.le_of_ble_eq_true rfl) (Nat.le_of_ble_eq_true rfl) (Nat.le_of_ble_eq_true rfl) (Nat.le_of_ble_eq_true rfl) (en_hdm (k0 := 4) [] [(0, 10, 17, 13), (0, 10, 21, 19)] rfl (fun _ h => nomatch h) (by decide +kernel) (by decide) t_739 n_750 dL_bounds_13) (by decide) rfl (fun h1092 f1093 w1094 => ?_)
  refine x_iconst (M := M_L_bounds) dL_bounds_15 ?_
  exact x_iret (M := M_L_bounds) dL_bounds_16 rfl ⟨rfl, (fr_tr f1093 (fun _ h => nomatch h) fr_rf), trivial⟩ (Nat.le_of_ble_eq_true rfl) (Nat.le_of_ble_eq_true rfl)
set_option maxRecDepth 10000 in
theorem q1108 {l : Launch} {E : EE} (hl : l.stackTraces = false) {h : HP} {a0 : Int32} {a1 : Int32} {dg : Int32} (c0 : a0.toInt < 0) (o1100 : ob h 277 = some (.inr (15, (RB dg)))) : en_C l E M_X12_bounds 1 0 0 [.ref 277, .int a0, .int a1] h (pF (some (.int (Int32.ofInt 0))) [277] h (fun h' => ob h' 277 = some (.inr (15, ((RB dg).set 0 (.int (Int32.ofInt 1))))) ∧ True)) := by
  refine en_mk m_X12_bounds rfl hl (Nat.le_of_ble_eq_true rfl) ?_
  refine x_aload_n (M := M_X12_bounds) dX12_bounds_0 rfl ?_
  refine x_iconst (M := M_X12_bounds) dX12_bounds_1 ?_
  refine y_put (M := M_X12_bounds) (ci := 15) (C := RX12) (T := TX12) (N := 135) (ty := tyX12) cl15 dX12_bounds_2 o1100 0 (by decide) t_2391 (Or.inl rfl) (Nat.le_of_ble_eq_true rfl) rfl (fun h1101 w1102 f1103 => ?_)
  refine x_aload_n (M := M_X12_bounds) dX12_bounds_5 rfl ?_
  refine x_iload_n (M := M_X12_bounds) dX12_bounds_6 rfl ?_
  refine x_callSR (M := M_X12_bounds) (M' := M_X12_isSlot) rfl rfl dX12_bounds_7 m_X12_isSlot t_2841 t_2842 (q411 hl c0) rfl rfl (Nat.le_of_ble_eq_true rfl) (Nat.le_of_ble_eq_true rfl) (Nat.le_of_ble_eq_true rfl) (Nat.le_of_ble_eq_true rfl) ?_
  refine x_if_ne (M := M_X12_bounds) (tgt := 17) dX12_bounds_10 (by decide) (fun q => absurd q (by decide +kernel)) (fun _ => ?_)
  refine x_iconst (M := M_X12_bounds) dX12_bounds_13 ?_
  refine x_goto (M := M_X12_bounds) (tgt := 18) dX12_bounds_14 (by decide) ?_
  refine x_iconst (M := M_X12_bounds) dX12_bounds_18 ?_
  refine y_callVR (M := M_X12_bounds) (M' := M_X12_fails) rfl rfl dX12_bounds_19 m_X12_fails t_2805 t_2807 s_157 (q22 hl w1102) rfl rfl w1102 rfl (Nat.le_of_ble_eq_true rfl) (Nat.le_of_ble_eq_true rfl) (Nat.le_of_ble_eq_true rfl) (Nat.le_of_ble_eq_true rfl) (fun h1104 f1105 w1106 => ?_)
  obtain ⟨o1107, -⟩ := w1106
  refine x_if_ne (M := M_X12_bounds) (tgt := 79) dX12_bounds_22 (by decide) (fun _ => ?_) (fun q => absurd q (by decide +kernel))
  refine x_iconst (M := M_X12_bounds) dX12_bounds_79 ?_
  exact x_iret (M := M_X12_bounds) dX12_bounds_80 rfl ⟨rfl, (fr_tr f1105 (by decide) (fr_tr f1103 (by decide) fr_rf)), ⟨o1107, trivial⟩⟩ (Nat.le_of_ble_eq_true rfl) (Nat.le_of_ble_eq_true rfl)
set_option maxRecDepth 10000 in
theorem lc22_0 {l : Launch} {E : EE} (hl : l.stackTraces = false) (nm : String) {xs : Nat → Int32} (hx : E.2.2.2.2 0 = some (7, xs)) {h : HP} {a0 : Int32} {a1 : Int32} {dg : Int32} (e2 : xs 2 = a0) (e3 : xs 3 = a1) (c0 : a0.toInt < 0) (o1096 : ob h 32 = some (.inr (14, [.ref 33, .ref 162, .ref 166, .int (0 : Int32), .int (0 : Int32), .int (0 : Int32), .ref 167, .ref 170, .ref 173, .ref 177, .ref 193, .ref 208, .ref 222, .ref 238, .ref 252, .ref 274, .ref 275, .ref 276, .int (0 : Int32)]))) (o1109 : ob h 277 = some (.inr (15, (RB dg)))) : XX l E (M_law nm) 1312 342628 8074320 (fun o _ => o = .inl (some (.int 1))) 1629 [some (.ref 0), some (.ref 32), some (.ref 277), some (.ref 359), some (.int (Int32.ofInt 1)), none, none, none] [] h 328 2463747 := by
  refine x_aload_n (M := (M_law nm)) dL_law_1629 rfl ?_
  refine x_aload_n (M := (M_law nm)) dL_law_1630 rfl ?_
  refine x_iload (M := (M_law nm)) dL_law_1631 rfl ?_
  refine x_iconst (M := (M_law nm)) dL_law_1633 ?_
  refine x_iadd (M := (M_law nm)) dL_law_1634 ?_
  refine x_sald (M := (M_law nm)) dL_law_1635 (by decide) hx (vp_inD (by decide +kernel)) ?_
  refine x_top (M := (M_law nm)) (y := a0) ((congrArg xs (by decide +kernel : ((Int32.ofInt 1) + (Int32.ofInt 1)).toNatClampNeg = 2)).trans e2) ?_
  refine x_aload_n (M := (M_law nm)) dL_law_1636 rfl ?_
  refine x_iload (M := (M_law nm)) dL_law_1637 rfl ?_
  refine x_iconst (M := (M_law nm)) dL_law_1639 ?_
  refine x_iadd (M := (M_law nm)) dL_law_1640 ?_
  refine x_sald (M := (M_law nm)) dL_law_1641 (by decide) hx (vp_inD (by decide +kernel)) ?_
  refine x_top (M := (M_law nm)) (y := a1) ((congrArg xs (by decide +kernel : ((Int32.ofInt 1) + (Int32.ofInt 2)).toNatClampNeg = 3)).trans e3) ?_
  refine x_aload_n (M := (M_law nm)) dL_law_1642 rfl ?_
  refine y_callSW (M := (M_law nm)) (M' := M_L_bounds) rfl rfl dL_law_1643 m_L_bounds t_2229 t_2230 (q1095 hl c0 o1096) rfl rfl (Nat.le_of_ble_eq_true rfl) (Nat.le_of_ble_eq_true rfl) (Nat.le_of_ble_eq_true rfl) (Nat.le_of_ble_eq_true rfl) (fun h1097 f1098 w1099 => ?_)
  refine x_istore (M := (M_law nm)) dL_law_1646 (Nat.le_of_ble_eq_true rfl) rfl ?_
  refine x_aload_n (M := (M_law nm)) dL_law_1648 rfl ?_
  refine x_aload_n (M := (M_law nm)) dL_law_1649 rfl ?_
  refine x_iload (M := (M_law nm)) dL_law_1650 rfl ?_
  refine x_iconst (M := (M_law nm)) dL_law_1652 ?_
  refine x_iadd (M := (M_law nm)) dL_law_1653 ?_
  refine x_sald (M := (M_law nm)) dL_law_1654 (by decide) hx (vp_inD (by decide +kernel)) ?_
  refine x_top (M := (M_law nm)) (y := a0) ((congrArg xs (by decide +kernel : ((Int32.ofInt 1) + (Int32.ofInt 1)).toNatClampNeg = 2)).trans e2) ?_
  refine x_aload_n (M := (M_law nm)) dL_law_1655 rfl ?_
  refine x_iload (M := (M_law nm)) dL_law_1656 rfl ?_
  refine x_iconst (M := (M_law nm)) dL_law_1658 ?_
  refine x_iadd (M := (M_law nm)) dL_law_1659 ?_
  refine x_sald (M := (M_law nm)) dL_law_1660 (by decide) hx (vp_inD (by decide +kernel)) ?_
  refine x_top (M := (M_law nm)) (y := a1) ((congrArg xs (by decide +kernel : ((Int32.ofInt 1) + (Int32.ofInt 2)).toNatClampNeg = 3)).trans e3) ?_
  have o1110 := (f1098 277 _ (by decide) o1109)
  refine y_callVR (M := (M_law nm)) (M' := M_X12_bounds) rfl rfl dL_law_1661 m_X12_bounds t_3119 t_3120 t_3121 (q1108 hl c0 o1110) rfl rfl o1110 rfl (Nat.le_of_ble_eq_true rfl) (Nat.le_of_ble_eq_true rfl) (Nat.le_of_ble_eq_true rfl) (Nat.le_of_ble_eq_true rfl) (fun h1111 f1112 w1113 => ?_)
  obtain ⟨o1114, -⟩ := w1113
  refine x_istore (M := (M_law nm)) dL_law_1664 (Nat.le_of_ble_eq_true rfl) rfl ?_
  refine x_aload_n (M := (M_law nm)) dL_law_1666 rfl ?_
  refine x_callVR (M := (M_law nm)) (M' := M_X12_thrown) rfl rfl dL_law_1667 m_X12_thrown t_2797 t_2798 t_2799 (q35 hl o1114) rfl rfl o1114 rfl (Nat.le_of_ble_eq_true rfl) (Nat.le_of_ble_eq_true rfl) (Nat.le_of_ble_eq_true rfl) (Nat.le_of_ble_eq_true rfl) ?_
  refine x_iload (M := (M_law nm)) dL_law_1670 rfl ?_
  refine x_icmp_eq (M := (M_law nm)) (tgt := 1677) dL_law_1672 (by decide) (fun _ => ?_) (fun q => absurd q (by decide +kernel))
  refine x_iload (M := (M_law nm)) dL_law_1677 rfl ?_
  refine x_if_ne (M := (M_law nm)) (tgt := 1694) dL_law_1679 (by decide) (fun _ => ?_) (fun q => absurd q (by decide +kernel))
  refine x_goto (M := (M_law nm)) (tgt := 2449) dL_law_1694 (by decide) ?_
  refine x_iinc (M := (M_law nm)) dL_law_2449 rfl (Nat.le_of_ble_eq_true rfl) rfl ?_
  refine x_lvs (M := (M_law nm)) (lv' := [some (.ref 0), some (.ref 32), some (.ref 277), some (.ref 359), some (.int (Int32.ofInt 7)), some (.int (Int32.ofInt 1)), some (.int (Int32.ofInt 0)), none]) (by rw [(by decide +kernel : (Int32.ofInt 1) + Int32.ofInt 6 = (Int32.ofInt 7))] <;> rfl) ?_
  refine x_goto (M := (M_law nm)) (tgt := 33) dL_law_2452 (by decide) ?_
  refine x_iload (M := (M_law nm)) dL_law_33 rfl ?_
  refine x_aload_n (M := (M_law nm)) dL_law_35 rfl ?_
  refine x_slen (M := (M_law nm)) dL_law_36 (by decide) hx ?_
  refine x_bipush (M := (M_law nm)) dL_law_37 ?_
  refine x_isub (M := (M_law nm)) dL_law_39 ?_
  refine x_icmp_gt (M := (M_law nm)) (tgt := 2455) dL_law_40 (by decide) (fun _ => ?_) (fun q => absurd q (by decide +kernel))
  refine x_iconst (M := (M_law nm)) dL_law_2455 ?_
  exact x_zret (M := (M_law nm)) dL_law_2456 rfl (by decide) rfl (Nat.le_of_ble_eq_true rfl) (Nat.le_of_ble_eq_true rfl)
set_option maxRecDepth 10000 in
theorem q1121 {l : Launch} {E : EE} (hl : l.stackTraces = false) {h : HP} {a0 : Int32} {a1 : Int32} (c0 : ¬ (a0.toInt < 0)) (c1 : a0.toInt < 32) (o1115 : ob h 32 = some (.inr (14, [.ref 33, .ref 162, .ref 166, .int (0 : Int32), .int (0 : Int32), .int (0 : Int32), .ref 167, .ref 170, .ref 173, .ref 177, .ref 193, .ref 208, .ref 222, .ref 238, .ref 252, .ref 274, .ref 275, .ref 276, .int (0 : Int32)]))) (o1116 : ob h 33 = some (.inl (4, 32, .inr (.inr (.inr (.inr (shf 1 32))))))) (o1117 : ob h (34 + 4 * a0.toNatClampNeg) = some (.inr (9, [.ref (35 + 4 * a0.toNatClampNeg), .ref (36 + 4 * a0.toNatClampNeg), .ref (37 + 4 * a0.toNatClampNeg), .int (0 : Int32), .int (0 : Int32)]))) : en_C l E M_X11_bounds 7 1 6 [.ref 32, .int a0, .int a1] h (pT "java/lang/IllegalStateException" [] h (fun _ => True)) := by
  have n_a0 : a0.toNatClampNeg < 32 := nc_lt (by omega) (by decide)
  refine en_mk m_X11_bounds rfl hl (Nat.le_of_ble_eq_true rfl) ?_
  refine x_aload_n (M := M_X11_bounds) dX11_bounds_0 rfl ?_
  refine x_iload_n (M := M_X11_bounds) dX11_bounds_1 rfl ?_
  refine x_callVR (M := M_X11_bounds) (M' := M_X11_slotNumbered) rfl rfl dX11_bounds_2 m_X11_slotNumbered t_744 t_746 s_2 (q425 hl c0 c1 o1115 o1116) rfl rfl o1115 rfl (Nat.le_of_ble_eq_true rfl) (Nat.le_of_ble_eq_true rfl) (Nat.le_of_ble_eq_true rfl) (Nat.le_of_ble_eq_true rfl) ?_
  refine x_astore_n (M := M_X11_bounds) dX11_bounds_5 (Nat.le_of_ble_eq_true rfl) rfl ?_
  refine x_aload_n (M := M_X11_bounds) dX11_bounds_6 rfl ?_
  exact y_callSX (M := M_X11_bounds) (M' := M_X11_mustBeThere) rfl rfl dX11_bounds_7 m_X11_mustBeThere t_1047 t_1048 (q810 hl c0 c1 o1117) rfl rfl (Nat.le_of_ble_eq_true rfl) (Nat.le_of_ble_eq_true rfl) (Nat.le_of_ble_eq_true rfl) (Nat.le_of_ble_eq_true rfl) (fun h1118 f1119 w1120 => ⟨rfl, (fr_tr f1119 (fun _ h => nomatch h) fr_rf), trivial⟩)
set_option maxRecDepth 10000 in
theorem q1128 {l : Launch} {E : EE} (hl : l.stackTraces = false) {h : HP} {a0 : Int32} {a1 : Int32} (c0 : ¬ (a0.toInt < 0)) (c1 : a0.toInt < 32) (o1122 : ob h 32 = some (.inr (14, [.ref 33, .ref 162, .ref 166, .int (0 : Int32), .int (0 : Int32), .int (0 : Int32), .ref 167, .ref 170, .ref 173, .ref 177, .ref 193, .ref 208, .ref 222, .ref 238, .ref 252, .ref 274, .ref 275, .ref 276, .int (0 : Int32)]))) (o1123 : ob h 33 = some (.inl (4, 32, .inr (.inr (.inr (.inr (shf 1 32))))))) (o1124 : ob h (34 + 4 * a0.toNatClampNeg) = some (.inr (9, [.ref (35 + 4 * a0.toNatClampNeg), .ref (36 + 4 * a0.toNatClampNeg), .ref (37 + 4 * a0.toNatClampNeg), .int (0 : Int32), .int (0 : Int32)]))) : en_C l E M_L_bounds 8 1 6 [.ref 32, .int a0, .int a1, .ref 359] h (pF (some (.int (Int32.ofInt 2))) [] h (fun _ => True)) := by
  have n_a0 : a0.toNatClampNeg < 32 := nc_lt (by omega) (by decide)
  refine en_mkW m_L_bounds rfl hl (Nat.le_of_ble_eq_true rfl) ?_
  refine x_aload_n (M := M_L_bounds) dL_bounds_0 rfl ?_
  refine x_iconst (M := M_L_bounds) dL_bounds_1 ?_
  refine x_aload_n (M := M_L_bounds) dL_bounds_2 rfl ?_
  refine x_iload_n (M := M_L_bounds) dL_bounds_3 rfl ?_
  refine x_iload_n (M := M_L_bounds) dL_bounds_4 rfl ?_
  refine y_callVHX (M := M_L_bounds) (M' := M_X11_bounds) (i9 := 4) (nx := 19) rfl dL_bounds_5 m_X11_bounds t_2232 t_2233 t_2234 o1122 rfl (q1121 hl c0 c1 o1122 o1123 o1124) rfl rfl (Nat.le_of_ble_eq_true rfl) (Nat.le_of_ble_eq_true rfl) (Nat.le_of_ble_eq_true rfl) (Nat.le_of_ble_eq_true rfl) (en_hdm (k0 := 4) [(0, 10, 13, 24)] [(0, 10, 21, 19)] rfl (List.forall_mem_cons.mpr ⟨⟨by decide, "java/lang/IndexOutOfBoundsException", t_739, by decide +kernel, by decide +kernel, by decide +kernel⟩, (fun _ h => nomatch h)⟩) (by decide +kernel) (by decide) t_637 n_645 dL_bounds_17) (by decide) rfl (fun h1125 f1126 w1127 => ?_)
  refine x_iconst (M := M_L_bounds) dL_bounds_19 ?_
  exact x_iret (M := M_L_bounds) dL_bounds_20 rfl ⟨rfl, (fr_tr f1126 (fun _ h => nomatch h) fr_rf), trivial⟩ (Nat.le_of_ble_eq_true rfl) (Nat.le_of_ble_eq_true rfl)
set_option maxRecDepth 10000 in
theorem q1149 {l : Launch} {E : EE} (hl : l.stackTraces = false) {h : HP} {a0 : Int32} {a1 : Int32} {dg : Int32} (c0 : ¬ (a0.toInt < 0)) (c1 : a0.toInt < 32) (o1135 : ob h 277 = some (.inr (15, (RB dg)))) (o1143 : ob h 280 = some (.inl (0, 33, .inl (fun _ => 0)))) : en_C l E M_X12_bounds 1 0 0 [.ref 277, .int a0, .int a1] h (pF (some (.int (Int32.ofInt 0))) [277] h (fun h' => ob h' 277 = some (.inr (15, ((RB dg).set 0 (.int (Int32.ofInt 2))))) ∧ True)) := by
  refine en_mk m_X12_bounds rfl hl (Nat.le_of_ble_eq_true rfl) ?_
  refine x_aload_n (M := M_X12_bounds) dX12_bounds_0 rfl ?_
  refine x_iconst (M := M_X12_bounds) dX12_bounds_1 ?_
  refine y_put (M := M_X12_bounds) (ci := 15) (C := RX12) (T := TX12) (N := 135) (ty := tyX12) cl15 dX12_bounds_2 o1135 0 (by decide) t_2391 (Or.inl rfl) (Nat.le_of_ble_eq_true rfl) rfl (fun h1136 w1137 f1138 => ?_)
  refine x_aload_n (M := M_X12_bounds) dX12_bounds_5 rfl ?_
  refine x_iload_n (M := M_X12_bounds) dX12_bounds_6 rfl ?_
  refine x_callSR (M := M_X12_bounds) (M' := M_X12_isSlot) rfl rfl dX12_bounds_7 m_X12_isSlot t_2841 t_2842 (q447 hl c0 c1) rfl rfl (Nat.le_of_ble_eq_true rfl) (Nat.le_of_ble_eq_true rfl) (Nat.le_of_ble_eq_true rfl) (Nat.le_of_ble_eq_true rfl) ?_
  refine x_if_ne (M := M_X12_bounds) (tgt := 17) dX12_bounds_10 (by decide) (fun _ => ?_) (fun q => absurd q (by decide +kernel))
  refine x_iconst (M := M_X12_bounds) dX12_bounds_17 ?_
  refine x_iconst (M := M_X12_bounds) dX12_bounds_18 ?_
  refine y_callVR (M := M_X12_bounds) (M' := M_X12_fails) rfl rfl dX12_bounds_19 m_X12_fails t_2805 t_2807 s_157 (q241 hl w1137) rfl rfl w1137 rfl (Nat.le_of_ble_eq_true rfl) (Nat.le_of_ble_eq_true rfl) (Nat.le_of_ble_eq_true rfl) (Nat.le_of_ble_eq_true rfl) (fun h1139 f1140 w1141 => ?_)
  obtain ⟨o1142, -⟩ := w1141
  refine x_if_ne (M := M_X12_bounds) (tgt := 79) dX12_bounds_22 (by decide) (fun q => absurd q (by decide +kernel)) (fun _ => ?_)
  refine x_aload_n (M := M_X12_bounds) dX12_bounds_25 rfl ?_
  refine x_aload_n (M := M_X12_bounds) dX12_bounds_26 rfl ?_
  refine x_iload_n (M := M_X12_bounds) dX12_bounds_27 rfl ?_
  have o1144 := (f1140 280 _ (by decide) (f1138 280 _ (by decide) o1143))
  refine x_callVR (M := M_X12_bounds) (M' := M_X12_has) rfl rfl dX12_bounds_28 m_X12_has t_3033 t_3035 s_197 (q839 hl c0 c1 o1142 o1144) rfl rfl o1142 rfl (Nat.le_of_ble_eq_true rfl) (Nat.le_of_ble_eq_true rfl) (Nat.le_of_ble_eq_true rfl) (Nat.le_of_ble_eq_true rfl) ?_
  refine x_if_ne (M := M_X12_bounds) (tgt := 38) dX12_bounds_31 (by decide) (fun q => absurd q (by decide +kernel)) (fun _ => ?_)
  refine x_iconst (M := M_X12_bounds) dX12_bounds_34 ?_
  refine x_goto (M := M_X12_bounds) (tgt := 39) dX12_bounds_35 (by decide) ?_
  refine x_iconst (M := M_X12_bounds) dX12_bounds_39 ?_
  refine y_callVR (M := M_X12_bounds) (M' := M_X12_fails) rfl rfl dX12_bounds_40 m_X12_fails t_2805 t_2807 s_157 (q761 hl o1142) rfl rfl o1142 rfl (Nat.le_of_ble_eq_true rfl) (Nat.le_of_ble_eq_true rfl) (Nat.le_of_ble_eq_true rfl) (Nat.le_of_ble_eq_true rfl) (fun h1145 f1146 w1147 => ?_)
  obtain ⟨o1148, -⟩ := w1147
  refine x_if_ne (M := M_X12_bounds) (tgt := 79) dX12_bounds_43 (by decide) (fun _ => ?_) (fun q => absurd q (by decide +kernel))
  refine x_iconst (M := M_X12_bounds) dX12_bounds_79 ?_
  exact x_iret (M := M_X12_bounds) dX12_bounds_80 rfl ⟨rfl, (fr_tr f1146 (by decide) (fr_tr f1140 (by decide) (fr_tr f1138 (by decide) fr_rf))), ⟨o1148, trivial⟩⟩ (Nat.le_of_ble_eq_true rfl) (Nat.le_of_ble_eq_true rfl)
set_option maxRecDepth 10000 in
theorem lc22_1 {l : Launch} {E : EE} (hl : l.stackTraces = false) (nm : String) {xs : Nat → Int32} (hx : E.2.2.2.2 0 = some (7, xs)) {h : HP} {a0 : Int32} {a1 : Int32} {dg : Int32} (e2 : xs 2 = a0) (e3 : xs 3 = a1) (c0 : ¬ (a0.toInt < 0)) (c1 : a0.toInt < 32) (o1129 : ob h 32 = some (.inr (14, [.ref 33, .ref 162, .ref 166, .int (0 : Int32), .int (0 : Int32), .int (0 : Int32), .ref 167, .ref 170, .ref 173, .ref 177, .ref 193, .ref 208, .ref 222, .ref 238, .ref 252, .ref 274, .ref 275, .ref 276, .int (0 : Int32)]))) (o1130 : ob h 33 = some (.inl (4, 32, .inr (.inr (.inr (.inr (shf 1 32))))))) (o1131 : ob h (34 + 4 * a0.toNatClampNeg) = some (.inr (9, [.ref (35 + 4 * a0.toNatClampNeg), .ref (36 + 4 * a0.toNatClampNeg), .ref (37 + 4 * a0.toNatClampNeg), .int (0 : Int32), .int (0 : Int32)]))) (o1150 : ob h 277 = some (.inr (15, (RB dg)))) (o1152 : ob h 280 = some (.inl (0, 33, .inl (fun _ => 0)))) : XX l E (M_law nm) 1312 342628 8074320 (fun o _ => o = .inl (some (.int 1))) 1629 [some (.ref 0), some (.ref 32), some (.ref 277), some (.ref 359), some (.int (Int32.ofInt 1)), none, none, none] [] h 328 2463747 := by
  have n_a0 : a0.toNatClampNeg < 32 := nc_lt (by omega) (by decide)
  refine x_aload_n (M := (M_law nm)) dL_law_1629 rfl ?_
  refine x_aload_n (M := (M_law nm)) dL_law_1630 rfl ?_
  refine x_iload (M := (M_law nm)) dL_law_1631 rfl ?_
  refine x_iconst (M := (M_law nm)) dL_law_1633 ?_
  refine x_iadd (M := (M_law nm)) dL_law_1634 ?_
  refine x_sald (M := (M_law nm)) dL_law_1635 (by decide) hx (vp_inD (by decide +kernel)) ?_
  refine x_top (M := (M_law nm)) (y := a0) ((congrArg xs (by decide +kernel : ((Int32.ofInt 1) + (Int32.ofInt 1)).toNatClampNeg = 2)).trans e2) ?_
  refine x_aload_n (M := (M_law nm)) dL_law_1636 rfl ?_
  refine x_iload (M := (M_law nm)) dL_law_1637 rfl ?_
  refine x_iconst (M := (M_law nm)) dL_law_1639 ?_
  refine x_iadd (M := (M_law nm)) dL_law_1640 ?_
  refine x_sald (M := (M_law nm)) dL_law_1641 (by decide) hx (vp_inD (by decide +kernel)) ?_
  refine x_top (M := (M_law nm)) (y := a1) ((congrArg xs (by decide +kernel : ((Int32.ofInt 1) + (Int32.ofInt 2)).toNatClampNeg = 3)).trans e3) ?_
  refine x_aload_n (M := (M_law nm)) dL_law_1642 rfl ?_
  refine y_callSW (M := (M_law nm)) (M' := M_L_bounds) rfl rfl dL_law_1643 m_L_bounds t_2229 t_2230 (q1128 hl c0 c1 o1129 o1130 o1131) rfl rfl (Nat.le_of_ble_eq_true rfl) (Nat.le_of_ble_eq_true rfl) (Nat.le_of_ble_eq_true rfl) (Nat.le_of_ble_eq_true rfl) (fun h1132 f1133 w1134 => ?_)
  refine x_istore (M := (M_law nm)) dL_law_1646 (Nat.le_of_ble_eq_true rfl) rfl ?_
  refine x_aload_n (M := (M_law nm)) dL_law_1648 rfl ?_
  refine x_aload_n (M := (M_law nm)) dL_law_1649 rfl ?_
  refine x_iload (M := (M_law nm)) dL_law_1650 rfl ?_
  refine x_iconst (M := (M_law nm)) dL_law_1652 ?_
  refine x_iadd (M := (M_law nm)) dL_law_1653 ?_
  refine x_sald (M := (M_law nm)) dL_law_1654 (by decide) hx (vp_inD (by decide +kernel)) ?_
  refine x_top (M := (M_law nm)) (y := a0) ((congrArg xs (by decide +kernel : ((Int32.ofInt 1) + (Int32.ofInt 1)).toNatClampNeg = 2)).trans e2) ?_
  refine x_aload_n (M := (M_law nm)) dL_law_1655 rfl ?_
  refine x_iload (M := (M_law nm)) dL_law_1656 rfl ?_
  refine x_iconst (M := (M_law nm)) dL_law_1658 ?_
  refine x_iadd (M := (M_law nm)) dL_law_1659 ?_
  refine x_sald (M := (M_law nm)) dL_law_1660 (by decide) hx (vp_inD (by decide +kernel)) ?_
  refine x_top (M := (M_law nm)) (y := a1) ((congrArg xs (by decide +kernel : ((Int32.ofInt 1) + (Int32.ofInt 2)).toNatClampNeg = 3)).trans e3) ?_
  have o1151 := (f1133 277 _ (by decide) o1150)
  have o1153 := (f1133 280 _ (by decide) o1152)
  refine y_callVR (M := (M_law nm)) (M' := M_X12_bounds) rfl rfl dL_law_1661 m_X12_bounds t_3119 t_3120 t_3121 (q1149 hl c0 c1 o1151 o1153) rfl rfl o1151 rfl (Nat.le_of_ble_eq_true rfl) (Nat.le_of_ble_eq_true rfl) (Nat.le_of_ble_eq_true rfl) (Nat.le_of_ble_eq_true rfl) (fun h1154 f1155 w1156 => ?_)
  obtain ⟨o1157, -⟩ := w1156
  refine x_istore (M := (M_law nm)) dL_law_1664 (Nat.le_of_ble_eq_true rfl) rfl ?_
  refine x_aload_n (M := (M_law nm)) dL_law_1666 rfl ?_
  refine x_callVR (M := (M_law nm)) (M' := M_X12_thrown) rfl rfl dL_law_1667 m_X12_thrown t_2797 t_2798 t_2799 (q774 hl o1157) rfl rfl o1157 rfl (Nat.le_of_ble_eq_true rfl) (Nat.le_of_ble_eq_true rfl) (Nat.le_of_ble_eq_true rfl) (Nat.le_of_ble_eq_true rfl) ?_
  refine x_iload (M := (M_law nm)) dL_law_1670 rfl ?_
  refine x_icmp_eq (M := (M_law nm)) (tgt := 1677) dL_law_1672 (by decide) (fun _ => ?_) (fun q => absurd q (by decide +kernel))
  refine x_iload (M := (M_law nm)) dL_law_1677 rfl ?_
  refine x_if_ne (M := (M_law nm)) (tgt := 1694) dL_law_1679 (by decide) (fun _ => ?_) (fun q => absurd q (by decide +kernel))
  refine x_goto (M := (M_law nm)) (tgt := 2449) dL_law_1694 (by decide) ?_
  refine x_iinc (M := (M_law nm)) dL_law_2449 rfl (Nat.le_of_ble_eq_true rfl) rfl ?_
  refine x_lvs (M := (M_law nm)) (lv' := [some (.ref 0), some (.ref 32), some (.ref 277), some (.ref 359), some (.int (Int32.ofInt 7)), some (.int (Int32.ofInt 2)), some (.int (Int32.ofInt 0)), none]) (by rw [(by decide +kernel : (Int32.ofInt 1) + Int32.ofInt 6 = (Int32.ofInt 7))] <;> rfl) ?_
  refine x_goto (M := (M_law nm)) (tgt := 33) dL_law_2452 (by decide) ?_
  refine x_iload (M := (M_law nm)) dL_law_33 rfl ?_
  refine x_aload_n (M := (M_law nm)) dL_law_35 rfl ?_
  refine x_slen (M := (M_law nm)) dL_law_36 (by decide) hx ?_
  refine x_bipush (M := (M_law nm)) dL_law_37 ?_
  refine x_isub (M := (M_law nm)) dL_law_39 ?_
  refine x_icmp_gt (M := (M_law nm)) (tgt := 2455) dL_law_40 (by decide) (fun _ => ?_) (fun q => absurd q (by decide +kernel))
  refine x_iconst (M := (M_law nm)) dL_law_2455 ?_
  exact x_zret (M := (M_law nm)) dL_law_2456 rfl (by decide) rfl (Nat.le_of_ble_eq_true rfl) (Nat.le_of_ble_eq_true rfl)
set_option maxRecDepth 10000 in
theorem q1162 {l : Launch} {E : EE} (hl : l.stackTraces = false) {h : HP} {a0 : Int32} {a1 : Int32} (c0 : ¬ (a0.toInt < 0)) (c1 : ¬ (a0.toInt < 32)) (o1158 : ob h 32 = some (.inr (14, [.ref 33, .ref 162, .ref 166, .int (0 : Int32), .int (0 : Int32), .int (0 : Int32), .ref 167, .ref 170, .ref 173, .ref 177, .ref 193, .ref 208, .ref 222, .ref 238, .ref 252, .ref 274, .ref 275, .ref 276, .int (0 : Int32)]))) : en_C l E M_X11_bounds 7 1 6 [.ref 32, .int a0, .int a1] h (pT "java/lang/IndexOutOfBoundsException" [] h (fun _ => True)) := by
  refine en_mk m_X11_bounds rfl hl (Nat.le_of_ble_eq_true rfl) ?_
  refine x_aload_n (M := M_X11_bounds) dX11_bounds_0 rfl ?_
  refine x_iload_n (M := M_X11_bounds) dX11_bounds_1 rfl ?_
  exact y_callVX (M := M_X11_bounds) (M' := M_X11_slotNumbered) rfl rfl dX11_bounds_2 m_X11_slotNumbered t_744 t_746 s_2 (q511 hl c0 c1) rfl rfl o1158 rfl (Nat.le_of_ble_eq_true rfl) (Nat.le_of_ble_eq_true rfl) (Nat.le_of_ble_eq_true rfl) (Nat.le_of_ble_eq_true rfl) (fun h1159 f1160 w1161 => ⟨rfl, (fr_tr f1160 (fun _ h => nomatch h) fr_rf), trivial⟩)
set_option maxRecDepth 10000 in
theorem q1167 {l : Launch} {E : EE} (hl : l.stackTraces = false) {h : HP} {a0 : Int32} {a1 : Int32} (c0 : ¬ (a0.toInt < 0)) (c1 : ¬ (a0.toInt < 32)) (o1163 : ob h 32 = some (.inr (14, [.ref 33, .ref 162, .ref 166, .int (0 : Int32), .int (0 : Int32), .int (0 : Int32), .ref 167, .ref 170, .ref 173, .ref 177, .ref 193, .ref 208, .ref 222, .ref 238, .ref 252, .ref 274, .ref 275, .ref 276, .int (0 : Int32)]))) : en_C l E M_L_bounds 8 1 6 [.ref 32, .int a0, .int a1, .ref 359] h (pF (some (.int (Int32.ofInt 1))) [] h (fun _ => True)) := by
  refine en_mkW m_L_bounds rfl hl (Nat.le_of_ble_eq_true rfl) ?_
  refine x_aload_n (M := M_L_bounds) dL_bounds_0 rfl ?_
  refine x_iconst (M := M_L_bounds) dL_bounds_1 ?_
  refine x_aload_n (M := M_L_bounds) dL_bounds_2 rfl ?_
  refine x_iload_n (M := M_L_bounds) dL_bounds_3 rfl ?_
  refine x_iload_n (M := M_L_bounds) dL_bounds_4 rfl ?_
  refine y_callVHX (M := M_L_bounds) (M' := M_X11_bounds) (i9 := 4) (nx := 15) rfl dL_bounds_5 m_X11_bounds t_2232 t_2233 t_2234 o1163 rfl (q1162 hl c0 c1 o1163) rfl rfl (Nat.le_of_ble_eq_true rfl) (Nat.le_of_ble_eq_true rfl) (Nat.le_of_ble_eq_true rfl) (Nat.le_of_ble_eq_true rfl) (en_hdm (k0 := 4) [] [(0, 10, 17, 13), (0, 10, 21, 19)] rfl (fun _ h => nomatch h) (by decide +kernel) (by decide) t_739 n_750 dL_bounds_13) (by decide) rfl (fun h1164 f1165 w1166 => ?_)
  refine x_iconst (M := M_L_bounds) dL_bounds_15 ?_
  exact x_iret (M := M_L_bounds) dL_bounds_16 rfl ⟨rfl, (fr_tr f1165 (fun _ h => nomatch h) fr_rf), trivial⟩ (Nat.le_of_ble_eq_true rfl) (Nat.le_of_ble_eq_true rfl)
set_option maxRecDepth 10000 in
theorem q1180 {l : Launch} {E : EE} (hl : l.stackTraces = false) {h : HP} {a0 : Int32} {a1 : Int32} {dg : Int32} (c0 : ¬ (a0.toInt < 0)) (c1 : ¬ (a0.toInt < 32)) (o1172 : ob h 277 = some (.inr (15, (RB dg)))) : en_C l E M_X12_bounds 1 0 0 [.ref 277, .int a0, .int a1] h (pF (some (.int (Int32.ofInt 0))) [277] h (fun h' => ob h' 277 = some (.inr (15, ((RB dg).set 0 (.int (Int32.ofInt 1))))) ∧ True)) := by
  refine en_mk m_X12_bounds rfl hl (Nat.le_of_ble_eq_true rfl) ?_
  refine x_aload_n (M := M_X12_bounds) dX12_bounds_0 rfl ?_
  refine x_iconst (M := M_X12_bounds) dX12_bounds_1 ?_
  refine y_put (M := M_X12_bounds) (ci := 15) (C := RX12) (T := TX12) (N := 135) (ty := tyX12) cl15 dX12_bounds_2 o1172 0 (by decide) t_2391 (Or.inl rfl) (Nat.le_of_ble_eq_true rfl) rfl (fun h1173 w1174 f1175 => ?_)
  refine x_aload_n (M := M_X12_bounds) dX12_bounds_5 rfl ?_
  refine x_iload_n (M := M_X12_bounds) dX12_bounds_6 rfl ?_
  refine x_callSR (M := M_X12_bounds) (M' := M_X12_isSlot) rfl rfl dX12_bounds_7 m_X12_isSlot t_2841 t_2842 (q530 hl c0 c1) rfl rfl (Nat.le_of_ble_eq_true rfl) (Nat.le_of_ble_eq_true rfl) (Nat.le_of_ble_eq_true rfl) (Nat.le_of_ble_eq_true rfl) ?_
  refine x_if_ne (M := M_X12_bounds) (tgt := 17) dX12_bounds_10 (by decide) (fun q => absurd q (by decide +kernel)) (fun _ => ?_)
  refine x_iconst (M := M_X12_bounds) dX12_bounds_13 ?_
  refine x_goto (M := M_X12_bounds) (tgt := 18) dX12_bounds_14 (by decide) ?_
  refine x_iconst (M := M_X12_bounds) dX12_bounds_18 ?_
  refine y_callVR (M := M_X12_bounds) (M' := M_X12_fails) rfl rfl dX12_bounds_19 m_X12_fails t_2805 t_2807 s_157 (q22 hl w1174) rfl rfl w1174 rfl (Nat.le_of_ble_eq_true rfl) (Nat.le_of_ble_eq_true rfl) (Nat.le_of_ble_eq_true rfl) (Nat.le_of_ble_eq_true rfl) (fun h1176 f1177 w1178 => ?_)
  obtain ⟨o1179, -⟩ := w1178
  refine x_if_ne (M := M_X12_bounds) (tgt := 79) dX12_bounds_22 (by decide) (fun _ => ?_) (fun q => absurd q (by decide +kernel))
  refine x_iconst (M := M_X12_bounds) dX12_bounds_79 ?_
  exact x_iret (M := M_X12_bounds) dX12_bounds_80 rfl ⟨rfl, (fr_tr f1177 (by decide) (fr_tr f1175 (by decide) fr_rf)), ⟨o1179, trivial⟩⟩ (Nat.le_of_ble_eq_true rfl) (Nat.le_of_ble_eq_true rfl)
set_option maxRecDepth 10000 in
theorem lc22_2 {l : Launch} {E : EE} (hl : l.stackTraces = false) (nm : String) {xs : Nat → Int32} (hx : E.2.2.2.2 0 = some (7, xs)) {h : HP} {a0 : Int32} {a1 : Int32} {dg : Int32} (e2 : xs 2 = a0) (e3 : xs 3 = a1) (c0 : ¬ (a0.toInt < 0)) (c1 : ¬ (a0.toInt < 32)) (o1168 : ob h 32 = some (.inr (14, [.ref 33, .ref 162, .ref 166, .int (0 : Int32), .int (0 : Int32), .int (0 : Int32), .ref 167, .ref 170, .ref 173, .ref 177, .ref 193, .ref 208, .ref 222, .ref 238, .ref 252, .ref 274, .ref 275, .ref 276, .int (0 : Int32)]))) (o1181 : ob h 277 = some (.inr (15, (RB dg)))) : XX l E (M_law nm) 1312 342628 8074320 (fun o _ => o = .inl (some (.int 1))) 1629 [some (.ref 0), some (.ref 32), some (.ref 277), some (.ref 359), some (.int (Int32.ofInt 1)), none, none, none] [] h 328 2463747 := by
  refine x_aload_n (M := (M_law nm)) dL_law_1629 rfl ?_
  refine x_aload_n (M := (M_law nm)) dL_law_1630 rfl ?_
  refine x_iload (M := (M_law nm)) dL_law_1631 rfl ?_
  refine x_iconst (M := (M_law nm)) dL_law_1633 ?_
  refine x_iadd (M := (M_law nm)) dL_law_1634 ?_
  refine x_sald (M := (M_law nm)) dL_law_1635 (by decide) hx (vp_inD (by decide +kernel)) ?_
  refine x_top (M := (M_law nm)) (y := a0) ((congrArg xs (by decide +kernel : ((Int32.ofInt 1) + (Int32.ofInt 1)).toNatClampNeg = 2)).trans e2) ?_
  refine x_aload_n (M := (M_law nm)) dL_law_1636 rfl ?_
  refine x_iload (M := (M_law nm)) dL_law_1637 rfl ?_
  refine x_iconst (M := (M_law nm)) dL_law_1639 ?_
  refine x_iadd (M := (M_law nm)) dL_law_1640 ?_
  refine x_sald (M := (M_law nm)) dL_law_1641 (by decide) hx (vp_inD (by decide +kernel)) ?_
  refine x_top (M := (M_law nm)) (y := a1) ((congrArg xs (by decide +kernel : ((Int32.ofInt 1) + (Int32.ofInt 2)).toNatClampNeg = 3)).trans e3) ?_
  refine x_aload_n (M := (M_law nm)) dL_law_1642 rfl ?_
  refine y_callSW (M := (M_law nm)) (M' := M_L_bounds) rfl rfl dL_law_1643 m_L_bounds t_2229 t_2230 (q1167 hl c0 c1 o1168) rfl rfl (Nat.le_of_ble_eq_true rfl) (Nat.le_of_ble_eq_true rfl) (Nat.le_of_ble_eq_true rfl) (Nat.le_of_ble_eq_true rfl) (fun h1169 f1170 w1171 => ?_)
  refine x_istore (M := (M_law nm)) dL_law_1646 (Nat.le_of_ble_eq_true rfl) rfl ?_
  refine x_aload_n (M := (M_law nm)) dL_law_1648 rfl ?_
  refine x_aload_n (M := (M_law nm)) dL_law_1649 rfl ?_
  refine x_iload (M := (M_law nm)) dL_law_1650 rfl ?_
  refine x_iconst (M := (M_law nm)) dL_law_1652 ?_
  refine x_iadd (M := (M_law nm)) dL_law_1653 ?_
  refine x_sald (M := (M_law nm)) dL_law_1654 (by decide) hx (vp_inD (by decide +kernel)) ?_
  refine x_top (M := (M_law nm)) (y := a0) ((congrArg xs (by decide +kernel : ((Int32.ofInt 1) + (Int32.ofInt 1)).toNatClampNeg = 2)).trans e2) ?_
  refine x_aload_n (M := (M_law nm)) dL_law_1655 rfl ?_
  refine x_iload (M := (M_law nm)) dL_law_1656 rfl ?_
  refine x_iconst (M := (M_law nm)) dL_law_1658 ?_
  refine x_iadd (M := (M_law nm)) dL_law_1659 ?_
  refine x_sald (M := (M_law nm)) dL_law_1660 (by decide) hx (vp_inD (by decide +kernel)) ?_
  refine x_top (M := (M_law nm)) (y := a1) ((congrArg xs (by decide +kernel : ((Int32.ofInt 1) + (Int32.ofInt 2)).toNatClampNeg = 3)).trans e3) ?_
  have o1182 := (f1170 277 _ (by decide) o1181)
  refine y_callVR (M := (M_law nm)) (M' := M_X12_bounds) rfl rfl dL_law_1661 m_X12_bounds t_3119 t_3120 t_3121 (q1180 hl c0 c1 o1182) rfl rfl o1182 rfl (Nat.le_of_ble_eq_true rfl) (Nat.le_of_ble_eq_true rfl) (Nat.le_of_ble_eq_true rfl) (Nat.le_of_ble_eq_true rfl) (fun h1183 f1184 w1185 => ?_)
  obtain ⟨o1186, -⟩ := w1185
  refine x_istore (M := (M_law nm)) dL_law_1664 (Nat.le_of_ble_eq_true rfl) rfl ?_
  refine x_aload_n (M := (M_law nm)) dL_law_1666 rfl ?_
  refine x_callVR (M := (M_law nm)) (M' := M_X12_thrown) rfl rfl dL_law_1667 m_X12_thrown t_2797 t_2798 t_2799 (q35 hl o1186) rfl rfl o1186 rfl (Nat.le_of_ble_eq_true rfl) (Nat.le_of_ble_eq_true rfl) (Nat.le_of_ble_eq_true rfl) (Nat.le_of_ble_eq_true rfl) ?_
  refine x_iload (M := (M_law nm)) dL_law_1670 rfl ?_
  refine x_icmp_eq (M := (M_law nm)) (tgt := 1677) dL_law_1672 (by decide) (fun _ => ?_) (fun q => absurd q (by decide +kernel))
  refine x_iload (M := (M_law nm)) dL_law_1677 rfl ?_
  refine x_if_ne (M := (M_law nm)) (tgt := 1694) dL_law_1679 (by decide) (fun _ => ?_) (fun q => absurd q (by decide +kernel))
  refine x_goto (M := (M_law nm)) (tgt := 2449) dL_law_1694 (by decide) ?_
  refine x_iinc (M := (M_law nm)) dL_law_2449 rfl (Nat.le_of_ble_eq_true rfl) rfl ?_
  refine x_lvs (M := (M_law nm)) (lv' := [some (.ref 0), some (.ref 32), some (.ref 277), some (.ref 359), some (.int (Int32.ofInt 7)), some (.int (Int32.ofInt 1)), some (.int (Int32.ofInt 0)), none]) (by rw [(by decide +kernel : (Int32.ofInt 1) + Int32.ofInt 6 = (Int32.ofInt 7))] <;> rfl) ?_
  refine x_goto (M := (M_law nm)) (tgt := 33) dL_law_2452 (by decide) ?_
  refine x_iload (M := (M_law nm)) dL_law_33 rfl ?_
  refine x_aload_n (M := (M_law nm)) dL_law_35 rfl ?_
  refine x_slen (M := (M_law nm)) dL_law_36 (by decide) hx ?_
  refine x_bipush (M := (M_law nm)) dL_law_37 ?_
  refine x_isub (M := (M_law nm)) dL_law_39 ?_
  refine x_icmp_gt (M := (M_law nm)) (tgt := 2455) dL_law_40 (by decide) (fun _ => ?_) (fun q => absurd q (by decide +kernel))
  refine x_iconst (M := (M_law nm)) dL_law_2455 ?_
  exact x_zret (M := (M_law nm)) dL_law_2456 rfl (by decide) rfl (Nat.le_of_ble_eq_true rfl) (Nat.le_of_ble_eq_true rfl)
theorem lop22 {l : Launch} {E : EE} (hl : l.stackTraces = false) (nm : String) {xs : Nat → Int32} (hx : E.2.2.2.2 0 = some (7, xs)) (dg : Int32) : XX l E (M_law nm) 1312 342628 8074320 (fun o _ => o = .inl (some (.int 1))) 1629 [some (.ref 0), some (.ref 32), some (.ref 277), some (.ref 359), some (.int (Int32.ofInt 1)), none, none, none] [] (HH dg) 328 2463747 := by
  obtain ⟨a0, e2⟩ : ∃ a : Int32, xs 2 = a := ⟨_, rfl⟩
  obtain ⟨a1, e3⟩ : ∃ a : Int32, xs 3 = a := ⟨_, rfl⟩
  obtain ⟨a2, e4⟩ : ∃ a : Int32, xs 4 = a := ⟨_, rfl⟩
  obtain ⟨a3, e5⟩ : ∃ a : Int32, xs 5 = a := ⟨_, rfl⟩
  obtain ⟨a4, e6⟩ : ∃ a : Int32, xs 6 = a := ⟨_, rfl⟩
  by_cases c0 : a0.toInt < 0
  · exact lc22_0 hl nm hx e2 e3 c0 (o_32 dg) (o_277b dg)
  · by_cases c1 : a0.toInt < 32
    · have n_a0 : a0.toNatClampNeg < 32 := nc_lt (by omega) (by decide)
      exact lc22_1 hl nm hx e2 e3 c0 c1 (o_32 dg) (o_33 dg) (o_sh dg a0.toNatClampNeg n_a0) (o_277b dg) (oMR (dg := dg) (k := 2) rfl)
    · exact lc22_2 hl nm hx e2 e3 c0 c1 (o_32 dg) (o_277b dg)
set_option maxRecDepth 10000 in
theorem q1191 {l : Launch} {E : EE} (hl : l.stackTraces = false) {h : HP} {a0 : Int32} {a1 : Int32} (c0 : a0.toInt < 0) (o1187 : ob h 32 = some (.inr (14, [.ref 33, .ref 162, .ref 166, .int (0 : Int32), .int (0 : Int32), .int (0 : Int32), .ref 167, .ref 170, .ref 173, .ref 177, .ref 193, .ref 208, .ref 222, .ref 238, .ref 252, .ref 274, .ref 275, .ref 276, .int (0 : Int32)]))) : en_C l E M_X11_writeBytes 7 1 6 [.ref 32, .int a0, .int a1] h (pT "java/lang/IndexOutOfBoundsException" [] h (fun _ => True)) := by
  refine en_mk m_X11_writeBytes rfl hl (Nat.le_of_ble_eq_true rfl) ?_
  refine x_aload_n (M := M_X11_writeBytes) dX11_writeBytes_0 rfl ?_
  refine x_iload_n (M := M_X11_writeBytes) dX11_writeBytes_1 rfl ?_
  exact y_callVX (M := M_X11_writeBytes) (M' := M_X11_slotNumbered) rfl rfl dX11_writeBytes_2 m_X11_slotNumbered t_744 t_746 s_2 (q392 hl c0) rfl rfl o1187 rfl (Nat.le_of_ble_eq_true rfl) (Nat.le_of_ble_eq_true rfl) (Nat.le_of_ble_eq_true rfl) (Nat.le_of_ble_eq_true rfl) (fun h1188 f1189 w1190 => ⟨rfl, (fr_tr f1189 (fun _ h => nomatch h) fr_rf), trivial⟩)
set_option maxRecDepth 10000 in
theorem q1196 {l : Launch} {E : EE} (hl : l.stackTraces = false) {h : HP} {a0 : Int32} {a1 : Int32} (c0 : a0.toInt < 0) (o1192 : ob h 32 = some (.inr (14, [.ref 33, .ref 162, .ref 166, .int (0 : Int32), .int (0 : Int32), .int (0 : Int32), .ref 167, .ref 170, .ref 173, .ref 177, .ref 193, .ref 208, .ref 222, .ref 238, .ref 252, .ref 274, .ref 275, .ref 276, .int (0 : Int32)]))) : en_C l E M_L_writeBytes 8 1 6 [.ref 32, .int a0, .int a1, .ref 359] h (pF (some (.int (Int32.ofInt 1))) [] h (fun _ => True)) := by
  refine en_mkW m_L_writeBytes rfl hl (Nat.le_of_ble_eq_true rfl) ?_
  refine x_aload_n (M := M_L_writeBytes) dL_writeBytes_0 rfl ?_
  refine x_iconst (M := M_L_writeBytes) dL_writeBytes_1 ?_
  refine x_aload_n (M := M_L_writeBytes) dL_writeBytes_2 rfl ?_
  refine x_iload_n (M := M_L_writeBytes) dL_writeBytes_3 rfl ?_
  refine x_iload_n (M := M_L_writeBytes) dL_writeBytes_4 rfl ?_
  refine y_callVHX (M := M_L_writeBytes) (M' := M_X11_writeBytes) (i9 := 4) (nx := 15) rfl dL_writeBytes_5 m_X11_writeBytes t_1113 t_1114 t_1115 o1192 rfl (q1191 hl c0 o1192) rfl rfl (Nat.le_of_ble_eq_true rfl) (Nat.le_of_ble_eq_true rfl) (Nat.le_of_ble_eq_true rfl) (Nat.le_of_ble_eq_true rfl) (en_hdm (k0 := 4) [] [(0, 10, 17, 13), (0, 10, 21, 19)] rfl (fun _ h => nomatch h) (by decide +kernel) (by decide) t_739 n_750 dL_writeBytes_13) (by decide) rfl (fun h1193 f1194 w1195 => ?_)
  refine x_iconst (M := M_L_writeBytes) dL_writeBytes_15 ?_
  exact x_iret (M := M_L_writeBytes) dL_writeBytes_16 rfl ⟨rfl, (fr_tr f1194 (fun _ h => nomatch h) fr_rf), trivial⟩ (Nat.le_of_ble_eq_true rfl) (Nat.le_of_ble_eq_true rfl)
set_option maxRecDepth 10000 in
theorem q1209 {l : Launch} {E : EE} (hl : l.stackTraces = false) {h : HP} {a0 : Int32} {a1 : Int32} {dg : Int32} (c0 : a0.toInt < 0) (o1201 : ob h 277 = some (.inr (15, (RB dg)))) : en_C l E M_X12_writeBytes 1 0 0 [.ref 277, .int a0, .int a1] h (pF (some (.int (Int32.ofInt 0))) [277] h (fun h' => ob h' 277 = some (.inr (15, ((RB dg).set 0 (.int (Int32.ofInt 1))))) ∧ True)) := by
  refine en_mk m_X12_writeBytes rfl hl (Nat.le_of_ble_eq_true rfl) ?_
  refine x_aload_n (M := M_X12_writeBytes) dX12_writeBytes_0 rfl ?_
  refine x_iconst (M := M_X12_writeBytes) dX12_writeBytes_1 ?_
  refine y_put (M := M_X12_writeBytes) (ci := 15) (C := RX12) (T := TX12) (N := 135) (ty := tyX12) cl15 dX12_writeBytes_2 o1201 0 (by decide) t_2391 (Or.inl rfl) (Nat.le_of_ble_eq_true rfl) rfl (fun h1202 w1203 f1204 => ?_)
  refine x_aload_n (M := M_X12_writeBytes) dX12_writeBytes_5 rfl ?_
  refine x_iload_n (M := M_X12_writeBytes) dX12_writeBytes_6 rfl ?_
  refine x_callSR (M := M_X12_writeBytes) (M' := M_X12_isSlot) rfl rfl dX12_writeBytes_7 m_X12_isSlot t_2841 t_2842 (q411 hl c0) rfl rfl (Nat.le_of_ble_eq_true rfl) (Nat.le_of_ble_eq_true rfl) (Nat.le_of_ble_eq_true rfl) (Nat.le_of_ble_eq_true rfl) ?_
  refine x_if_ne (M := M_X12_writeBytes) (tgt := 17) dX12_writeBytes_10 (by decide) (fun q => absurd q (by decide +kernel)) (fun _ => ?_)
  refine x_iconst (M := M_X12_writeBytes) dX12_writeBytes_13 ?_
  refine x_goto (M := M_X12_writeBytes) (tgt := 18) dX12_writeBytes_14 (by decide) ?_
  refine x_iconst (M := M_X12_writeBytes) dX12_writeBytes_18 ?_
  refine y_callVR (M := M_X12_writeBytes) (M' := M_X12_fails) rfl rfl dX12_writeBytes_19 m_X12_fails t_2805 t_2807 s_157 (q22 hl w1203) rfl rfl w1203 rfl (Nat.le_of_ble_eq_true rfl) (Nat.le_of_ble_eq_true rfl) (Nat.le_of_ble_eq_true rfl) (Nat.le_of_ble_eq_true rfl) (fun h1205 f1206 w1207 => ?_)
  obtain ⟨o1208, -⟩ := w1207
  refine x_if_ne (M := M_X12_writeBytes) (tgt := 69) dX12_writeBytes_22 (by decide) (fun _ => ?_) (fun q => absurd q (by decide +kernel))
  refine x_iconst (M := M_X12_writeBytes) dX12_writeBytes_69 ?_
  exact x_iret (M := M_X12_writeBytes) dX12_writeBytes_70 rfl ⟨rfl, (fr_tr f1206 (by decide) (fr_tr f1204 (by decide) fr_rf)), ⟨o1208, trivial⟩⟩ (Nat.le_of_ble_eq_true rfl) (Nat.le_of_ble_eq_true rfl)
set_option maxRecDepth 10000 in
theorem lc7_0 {l : Launch} {E : EE} (hl : l.stackTraces = false) (nm : String) {xs : Nat → Int32} (hx : E.2.2.2.2 0 = some (7, xs)) {h : HP} {a0 : Int32} {a1 : Int32} {dg : Int32} (e2 : xs 2 = a0) (e3 : xs 3 = a1) (c0 : a0.toInt < 0) (o1197 : ob h 32 = some (.inr (14, [.ref 33, .ref 162, .ref 166, .int (0 : Int32), .int (0 : Int32), .int (0 : Int32), .ref 167, .ref 170, .ref 173, .ref 177, .ref 193, .ref 208, .ref 222, .ref 238, .ref 252, .ref 274, .ref 275, .ref 276, .int (0 : Int32)]))) (o1210 : ob h 277 = some (.inr (15, (RB dg)))) : XX l E (M_law nm) 1312 342628 8074320 (fun o _ => o = .inl (some (.int 1))) 589 [some (.ref 0), some (.ref 32), some (.ref 277), some (.ref 359), some (.int (Int32.ofInt 1)), none, none, none] [] h 328 2463747 := by
  refine x_aload_n (M := (M_law nm)) dL_law_589 rfl ?_
  refine x_aload_n (M := (M_law nm)) dL_law_590 rfl ?_
  refine x_iload (M := (M_law nm)) dL_law_591 rfl ?_
  refine x_iconst (M := (M_law nm)) dL_law_593 ?_
  refine x_iadd (M := (M_law nm)) dL_law_594 ?_
  refine x_sald (M := (M_law nm)) dL_law_595 (by decide) hx (vp_inD (by decide +kernel)) ?_
  refine x_top (M := (M_law nm)) (y := a0) ((congrArg xs (by decide +kernel : ((Int32.ofInt 1) + (Int32.ofInt 1)).toNatClampNeg = 2)).trans e2) ?_
  refine x_aload_n (M := (M_law nm)) dL_law_596 rfl ?_
  refine x_iload (M := (M_law nm)) dL_law_597 rfl ?_
  refine x_iconst (M := (M_law nm)) dL_law_599 ?_
  refine x_iadd (M := (M_law nm)) dL_law_600 ?_
  refine x_sald (M := (M_law nm)) dL_law_601 (by decide) hx (vp_inD (by decide +kernel)) ?_
  refine x_top (M := (M_law nm)) (y := a1) ((congrArg xs (by decide +kernel : ((Int32.ofInt 1) + (Int32.ofInt 2)).toNatClampNeg = 3)).trans e3) ?_
  refine x_aload_n (M := (M_law nm)) dL_law_602 rfl ?_
  refine y_callSW (M := (M_law nm)) (M' := M_L_writeBytes) rfl rfl dL_law_603 m_L_writeBytes t_1110 t_1111 (q1196 hl c0 o1197) rfl rfl (Nat.le_of_ble_eq_true rfl) (Nat.le_of_ble_eq_true rfl) (Nat.le_of_ble_eq_true rfl) (Nat.le_of_ble_eq_true rfl) (fun h1198 f1199 w1200 => ?_)
  refine x_istore (M := (M_law nm)) dL_law_606 (Nat.le_of_ble_eq_true rfl) rfl ?_
  refine x_aload_n (M := (M_law nm)) dL_law_608 rfl ?_
  refine x_aload_n (M := (M_law nm)) dL_law_609 rfl ?_
  refine x_iload (M := (M_law nm)) dL_law_610 rfl ?_
  refine x_iconst (M := (M_law nm)) dL_law_612 ?_
  refine x_iadd (M := (M_law nm)) dL_law_613 ?_
  refine x_sald (M := (M_law nm)) dL_law_614 (by decide) hx (vp_inD (by decide +kernel)) ?_
  refine x_top (M := (M_law nm)) (y := a0) ((congrArg xs (by decide +kernel : ((Int32.ofInt 1) + (Int32.ofInt 1)).toNatClampNeg = 2)).trans e2) ?_
  refine x_aload_n (M := (M_law nm)) dL_law_615 rfl ?_
  refine x_iload (M := (M_law nm)) dL_law_616 rfl ?_
  refine x_iconst (M := (M_law nm)) dL_law_618 ?_
  refine x_iadd (M := (M_law nm)) dL_law_619 ?_
  refine x_sald (M := (M_law nm)) dL_law_620 (by decide) hx (vp_inD (by decide +kernel)) ?_
  refine x_top (M := (M_law nm)) (y := a1) ((congrArg xs (by decide +kernel : ((Int32.ofInt 1) + (Int32.ofInt 2)).toNatClampNeg = 3)).trans e3) ?_
  have o1211 := (f1199 277 _ (by decide) o1210)
  refine y_callVR (M := (M_law nm)) (M' := M_X12_writeBytes) rfl rfl dL_law_621 m_X12_writeBytes t_3074 t_3075 t_3076 (q1209 hl c0 o1211) rfl rfl o1211 rfl (Nat.le_of_ble_eq_true rfl) (Nat.le_of_ble_eq_true rfl) (Nat.le_of_ble_eq_true rfl) (Nat.le_of_ble_eq_true rfl) (fun h1212 f1213 w1214 => ?_)
  obtain ⟨o1215, -⟩ := w1214
  refine x_istore (M := (M_law nm)) dL_law_624 (Nat.le_of_ble_eq_true rfl) rfl ?_
  refine x_aload_n (M := (M_law nm)) dL_law_626 rfl ?_
  refine x_callVR (M := (M_law nm)) (M' := M_X12_thrown) rfl rfl dL_law_627 m_X12_thrown t_2797 t_2798 t_2799 (q35 hl o1215) rfl rfl o1215 rfl (Nat.le_of_ble_eq_true rfl) (Nat.le_of_ble_eq_true rfl) (Nat.le_of_ble_eq_true rfl) (Nat.le_of_ble_eq_true rfl) ?_
  refine x_iload (M := (M_law nm)) dL_law_630 rfl ?_
  refine x_icmp_eq (M := (M_law nm)) (tgt := 637) dL_law_632 (by decide) (fun _ => ?_) (fun q => absurd q (by decide +kernel))
  refine x_iload (M := (M_law nm)) dL_law_637 rfl ?_
  refine x_if_ne (M := (M_law nm)) (tgt := 654) dL_law_639 (by decide) (fun _ => ?_) (fun q => absurd q (by decide +kernel))
  refine x_goto (M := (M_law nm)) (tgt := 2449) dL_law_654 (by decide) ?_
  refine x_iinc (M := (M_law nm)) dL_law_2449 rfl (Nat.le_of_ble_eq_true rfl) rfl ?_
  refine x_lvs (M := (M_law nm)) (lv' := [some (.ref 0), some (.ref 32), some (.ref 277), some (.ref 359), some (.int (Int32.ofInt 7)), some (.int (Int32.ofInt 1)), some (.int (Int32.ofInt 0)), none]) (by rw [(by decide +kernel : (Int32.ofInt 1) + Int32.ofInt 6 = (Int32.ofInt 7))] <;> rfl) ?_
  refine x_goto (M := (M_law nm)) (tgt := 33) dL_law_2452 (by decide) ?_
  refine x_iload (M := (M_law nm)) dL_law_33 rfl ?_
  refine x_aload_n (M := (M_law nm)) dL_law_35 rfl ?_
  refine x_slen (M := (M_law nm)) dL_law_36 (by decide) hx ?_
  refine x_bipush (M := (M_law nm)) dL_law_37 ?_
  refine x_isub (M := (M_law nm)) dL_law_39 ?_
  refine x_icmp_gt (M := (M_law nm)) (tgt := 2455) dL_law_40 (by decide) (fun _ => ?_) (fun q => absurd q (by decide +kernel))
  refine x_iconst (M := (M_law nm)) dL_law_2455 ?_
  exact x_zret (M := (M_law nm)) dL_law_2456 rfl (by decide) rfl (Nat.le_of_ble_eq_true rfl) (Nat.le_of_ble_eq_true rfl)
set_option maxRecDepth 10000 in
theorem q1222 {l : Launch} {E : EE} (hl : l.stackTraces = false) {h : HP} {a0 : Int32} {a1 : Int32} (c0 : ¬ (a0.toInt < 0)) (c1 : a0.toInt < 32) (o1216 : ob h 32 = some (.inr (14, [.ref 33, .ref 162, .ref 166, .int (0 : Int32), .int (0 : Int32), .int (0 : Int32), .ref 167, .ref 170, .ref 173, .ref 177, .ref 193, .ref 208, .ref 222, .ref 238, .ref 252, .ref 274, .ref 275, .ref 276, .int (0 : Int32)]))) (o1217 : ob h 33 = some (.inl (4, 32, .inr (.inr (.inr (.inr (shf 1 32))))))) (o1218 : ob h (34 + 4 * a0.toNatClampNeg) = some (.inr (9, [.ref (35 + 4 * a0.toNatClampNeg), .ref (36 + 4 * a0.toNatClampNeg), .ref (37 + 4 * a0.toNatClampNeg), .int (0 : Int32), .int (0 : Int32)]))) : en_C l E M_X11_writeBytes 7 1 6 [.ref 32, .int a0, .int a1] h (pT "java/lang/IllegalStateException" [] h (fun _ => True)) := by
  have n_a0 : a0.toNatClampNeg < 32 := nc_lt (by omega) (by decide)
  refine en_mk m_X11_writeBytes rfl hl (Nat.le_of_ble_eq_true rfl) ?_
  refine x_aload_n (M := M_X11_writeBytes) dX11_writeBytes_0 rfl ?_
  refine x_iload_n (M := M_X11_writeBytes) dX11_writeBytes_1 rfl ?_
  refine x_callVR (M := M_X11_writeBytes) (M' := M_X11_slotNumbered) rfl rfl dX11_writeBytes_2 m_X11_slotNumbered t_744 t_746 s_2 (q425 hl c0 c1 o1216 o1217) rfl rfl o1216 rfl (Nat.le_of_ble_eq_true rfl) (Nat.le_of_ble_eq_true rfl) (Nat.le_of_ble_eq_true rfl) (Nat.le_of_ble_eq_true rfl) ?_
  refine x_astore_n (M := M_X11_writeBytes) dX11_writeBytes_5 (Nat.le_of_ble_eq_true rfl) rfl ?_
  refine x_aload_n (M := M_X11_writeBytes) dX11_writeBytes_6 rfl ?_
  exact y_callSX (M := M_X11_writeBytes) (M' := M_X11_mustBeThere) rfl rfl dX11_writeBytes_7 m_X11_mustBeThere t_1047 t_1048 (q810 hl c0 c1 o1218) rfl rfl (Nat.le_of_ble_eq_true rfl) (Nat.le_of_ble_eq_true rfl) (Nat.le_of_ble_eq_true rfl) (Nat.le_of_ble_eq_true rfl) (fun h1219 f1220 w1221 => ⟨rfl, (fr_tr f1220 (fun _ h => nomatch h) fr_rf), trivial⟩)
set_option maxRecDepth 10000 in
theorem q1229 {l : Launch} {E : EE} (hl : l.stackTraces = false) {h : HP} {a0 : Int32} {a1 : Int32} (c0 : ¬ (a0.toInt < 0)) (c1 : a0.toInt < 32) (o1223 : ob h 32 = some (.inr (14, [.ref 33, .ref 162, .ref 166, .int (0 : Int32), .int (0 : Int32), .int (0 : Int32), .ref 167, .ref 170, .ref 173, .ref 177, .ref 193, .ref 208, .ref 222, .ref 238, .ref 252, .ref 274, .ref 275, .ref 276, .int (0 : Int32)]))) (o1224 : ob h 33 = some (.inl (4, 32, .inr (.inr (.inr (.inr (shf 1 32))))))) (o1225 : ob h (34 + 4 * a0.toNatClampNeg) = some (.inr (9, [.ref (35 + 4 * a0.toNatClampNeg), .ref (36 + 4 * a0.toNatClampNeg), .ref (37 + 4 * a0.toNatClampNeg), .int (0 : Int32), .int (0 : Int32)]))) : en_C l E M_L_writeBytes 8 1 6 [.ref 32, .int a0, .int a1, .ref 359] h (pF (some (.int (Int32.ofInt 2))) [] h (fun _ => True)) := by
  have n_a0 : a0.toNatClampNeg < 32 := nc_lt (by omega) (by decide)
  refine en_mkW m_L_writeBytes rfl hl (Nat.le_of_ble_eq_true rfl) ?_
  refine x_aload_n (M := M_L_writeBytes) dL_writeBytes_0 rfl ?_
  refine x_iconst (M := M_L_writeBytes) dL_writeBytes_1 ?_
  refine x_aload_n (M := M_L_writeBytes) dL_writeBytes_2 rfl ?_
  refine x_iload_n (M := M_L_writeBytes) dL_writeBytes_3 rfl ?_
  refine x_iload_n (M := M_L_writeBytes) dL_writeBytes_4 rfl ?_
  refine y_callVHX (M := M_L_writeBytes) (M' := M_X11_writeBytes) (i9 := 4) (nx := 19) rfl dL_writeBytes_5 m_X11_writeBytes t_1113 t_1114 t_1115 o1223 rfl (q1222 hl c0 c1 o1223 o1224 o1225) rfl rfl (Nat.le_of_ble_eq_true rfl) (Nat.le_of_ble_eq_true rfl) (Nat.le_of_ble_eq_true rfl) (Nat.le_of_ble_eq_true rfl) (en_hdm (k0 := 4) [(0, 10, 13, 24)] [(0, 10, 21, 19)] rfl (List.forall_mem_cons.mpr ⟨⟨by decide, "java/lang/IndexOutOfBoundsException", t_739, by decide +kernel, by decide +kernel, by decide +kernel⟩, (fun _ h => nomatch h)⟩) (by decide +kernel) (by decide) t_637 n_645 dL_writeBytes_17) (by decide) rfl (fun h1226 f1227 w1228 => ?_)
  refine x_iconst (M := M_L_writeBytes) dL_writeBytes_19 ?_
  exact x_iret (M := M_L_writeBytes) dL_writeBytes_20 rfl ⟨rfl, (fr_tr f1227 (fun _ h => nomatch h) fr_rf), trivial⟩ (Nat.le_of_ble_eq_true rfl) (Nat.le_of_ble_eq_true rfl)
set_option maxRecDepth 10000 in
theorem q1250 {l : Launch} {E : EE} (hl : l.stackTraces = false) {h : HP} {a0 : Int32} {a1 : Int32} {dg : Int32} (c0 : ¬ (a0.toInt < 0)) (c1 : a0.toInt < 32) (o1236 : ob h 277 = some (.inr (15, (RB dg)))) (o1244 : ob h 280 = some (.inl (0, 33, .inl (fun _ => 0)))) : en_C l E M_X12_writeBytes 1 0 0 [.ref 277, .int a0, .int a1] h (pF (some (.int (Int32.ofInt 0))) [277] h (fun h' => ob h' 277 = some (.inr (15, ((RB dg).set 0 (.int (Int32.ofInt 2))))) ∧ True)) := by
  refine en_mk m_X12_writeBytes rfl hl (Nat.le_of_ble_eq_true rfl) ?_
  refine x_aload_n (M := M_X12_writeBytes) dX12_writeBytes_0 rfl ?_
  refine x_iconst (M := M_X12_writeBytes) dX12_writeBytes_1 ?_
  refine y_put (M := M_X12_writeBytes) (ci := 15) (C := RX12) (T := TX12) (N := 135) (ty := tyX12) cl15 dX12_writeBytes_2 o1236 0 (by decide) t_2391 (Or.inl rfl) (Nat.le_of_ble_eq_true rfl) rfl (fun h1237 w1238 f1239 => ?_)
  refine x_aload_n (M := M_X12_writeBytes) dX12_writeBytes_5 rfl ?_
  refine x_iload_n (M := M_X12_writeBytes) dX12_writeBytes_6 rfl ?_
  refine x_callSR (M := M_X12_writeBytes) (M' := M_X12_isSlot) rfl rfl dX12_writeBytes_7 m_X12_isSlot t_2841 t_2842 (q447 hl c0 c1) rfl rfl (Nat.le_of_ble_eq_true rfl) (Nat.le_of_ble_eq_true rfl) (Nat.le_of_ble_eq_true rfl) (Nat.le_of_ble_eq_true rfl) ?_
  refine x_if_ne (M := M_X12_writeBytes) (tgt := 17) dX12_writeBytes_10 (by decide) (fun _ => ?_) (fun q => absurd q (by decide +kernel))
  refine x_iconst (M := M_X12_writeBytes) dX12_writeBytes_17 ?_
  refine x_iconst (M := M_X12_writeBytes) dX12_writeBytes_18 ?_
  refine y_callVR (M := M_X12_writeBytes) (M' := M_X12_fails) rfl rfl dX12_writeBytes_19 m_X12_fails t_2805 t_2807 s_157 (q241 hl w1238) rfl rfl w1238 rfl (Nat.le_of_ble_eq_true rfl) (Nat.le_of_ble_eq_true rfl) (Nat.le_of_ble_eq_true rfl) (Nat.le_of_ble_eq_true rfl) (fun h1240 f1241 w1242 => ?_)
  obtain ⟨o1243, -⟩ := w1242
  refine x_if_ne (M := M_X12_writeBytes) (tgt := 69) dX12_writeBytes_22 (by decide) (fun q => absurd q (by decide +kernel)) (fun _ => ?_)
  refine x_aload_n (M := M_X12_writeBytes) dX12_writeBytes_25 rfl ?_
  refine x_aload_n (M := M_X12_writeBytes) dX12_writeBytes_26 rfl ?_
  refine x_iload_n (M := M_X12_writeBytes) dX12_writeBytes_27 rfl ?_
  have o1245 := (f1241 280 _ (by decide) (f1239 280 _ (by decide) o1244))
  refine x_callVR (M := M_X12_writeBytes) (M' := M_X12_has) rfl rfl dX12_writeBytes_28 m_X12_has t_3033 t_3035 s_197 (q839 hl c0 c1 o1243 o1245) rfl rfl o1243 rfl (Nat.le_of_ble_eq_true rfl) (Nat.le_of_ble_eq_true rfl) (Nat.le_of_ble_eq_true rfl) (Nat.le_of_ble_eq_true rfl) ?_
  refine x_if_ne (M := M_X12_writeBytes) (tgt := 38) dX12_writeBytes_31 (by decide) (fun q => absurd q (by decide +kernel)) (fun _ => ?_)
  refine x_iconst (M := M_X12_writeBytes) dX12_writeBytes_34 ?_
  refine x_goto (M := M_X12_writeBytes) (tgt := 39) dX12_writeBytes_35 (by decide) ?_
  refine x_iconst (M := M_X12_writeBytes) dX12_writeBytes_39 ?_
  refine y_callVR (M := M_X12_writeBytes) (M' := M_X12_fails) rfl rfl dX12_writeBytes_40 m_X12_fails t_2805 t_2807 s_157 (q761 hl o1243) rfl rfl o1243 rfl (Nat.le_of_ble_eq_true rfl) (Nat.le_of_ble_eq_true rfl) (Nat.le_of_ble_eq_true rfl) (Nat.le_of_ble_eq_true rfl) (fun h1246 f1247 w1248 => ?_)
  obtain ⟨o1249, -⟩ := w1248
  refine x_if_ne (M := M_X12_writeBytes) (tgt := 69) dX12_writeBytes_43 (by decide) (fun _ => ?_) (fun q => absurd q (by decide +kernel))
  refine x_iconst (M := M_X12_writeBytes) dX12_writeBytes_69 ?_
  exact x_iret (M := M_X12_writeBytes) dX12_writeBytes_70 rfl ⟨rfl, (fr_tr f1247 (by decide) (fr_tr f1241 (by decide) (fr_tr f1239 (by decide) fr_rf))), ⟨o1249, trivial⟩⟩ (Nat.le_of_ble_eq_true rfl) (Nat.le_of_ble_eq_true rfl)
set_option maxRecDepth 10000 in
theorem lc7_1 {l : Launch} {E : EE} (hl : l.stackTraces = false) (nm : String) {xs : Nat → Int32} (hx : E.2.2.2.2 0 = some (7, xs)) {h : HP} {a0 : Int32} {a1 : Int32} {dg : Int32} (e2 : xs 2 = a0) (e3 : xs 3 = a1) (c0 : ¬ (a0.toInt < 0)) (c1 : a0.toInt < 32) (o1230 : ob h 32 = some (.inr (14, [.ref 33, .ref 162, .ref 166, .int (0 : Int32), .int (0 : Int32), .int (0 : Int32), .ref 167, .ref 170, .ref 173, .ref 177, .ref 193, .ref 208, .ref 222, .ref 238, .ref 252, .ref 274, .ref 275, .ref 276, .int (0 : Int32)]))) (o1231 : ob h 33 = some (.inl (4, 32, .inr (.inr (.inr (.inr (shf 1 32))))))) (o1232 : ob h (34 + 4 * a0.toNatClampNeg) = some (.inr (9, [.ref (35 + 4 * a0.toNatClampNeg), .ref (36 + 4 * a0.toNatClampNeg), .ref (37 + 4 * a0.toNatClampNeg), .int (0 : Int32), .int (0 : Int32)]))) (o1251 : ob h 277 = some (.inr (15, (RB dg)))) (o1253 : ob h 280 = some (.inl (0, 33, .inl (fun _ => 0)))) : XX l E (M_law nm) 1312 342628 8074320 (fun o _ => o = .inl (some (.int 1))) 589 [some (.ref 0), some (.ref 32), some (.ref 277), some (.ref 359), some (.int (Int32.ofInt 1)), none, none, none] [] h 328 2463747 := by
  have n_a0 : a0.toNatClampNeg < 32 := nc_lt (by omega) (by decide)
  refine x_aload_n (M := (M_law nm)) dL_law_589 rfl ?_
  refine x_aload_n (M := (M_law nm)) dL_law_590 rfl ?_
  refine x_iload (M := (M_law nm)) dL_law_591 rfl ?_
  refine x_iconst (M := (M_law nm)) dL_law_593 ?_
  refine x_iadd (M := (M_law nm)) dL_law_594 ?_
  refine x_sald (M := (M_law nm)) dL_law_595 (by decide) hx (vp_inD (by decide +kernel)) ?_
  refine x_top (M := (M_law nm)) (y := a0) ((congrArg xs (by decide +kernel : ((Int32.ofInt 1) + (Int32.ofInt 1)).toNatClampNeg = 2)).trans e2) ?_
  refine x_aload_n (M := (M_law nm)) dL_law_596 rfl ?_
  refine x_iload (M := (M_law nm)) dL_law_597 rfl ?_
  refine x_iconst (M := (M_law nm)) dL_law_599 ?_
  refine x_iadd (M := (M_law nm)) dL_law_600 ?_
  refine x_sald (M := (M_law nm)) dL_law_601 (by decide) hx (vp_inD (by decide +kernel)) ?_
  refine x_top (M := (M_law nm)) (y := a1) ((congrArg xs (by decide +kernel : ((Int32.ofInt 1) + (Int32.ofInt 2)).toNatClampNeg = 3)).trans e3) ?_
  refine x_aload_n (M := (M_law nm)) dL_law_602 rfl ?_
  refine y_callSW (M := (M_law nm)) (M' := M_L_writeBytes) rfl rfl dL_law_603 m_L_writeBytes t_1110 t_1111 (q1229 hl c0 c1 o1230 o1231 o1232) rfl rfl (Nat.le_of_ble_eq_true rfl) (Nat.le_of_ble_eq_true rfl) (Nat.le_of_ble_eq_true rfl) (Nat.le_of_ble_eq_true rfl) (fun h1233 f1234 w1235 => ?_)
  refine x_istore (M := (M_law nm)) dL_law_606 (Nat.le_of_ble_eq_true rfl) rfl ?_
  refine x_aload_n (M := (M_law nm)) dL_law_608 rfl ?_
  refine x_aload_n (M := (M_law nm)) dL_law_609 rfl ?_
  refine x_iload (M := (M_law nm)) dL_law_610 rfl ?_
  refine x_iconst (M := (M_law nm)) dL_law_612 ?_
  refine x_iadd (M := (M_law nm)) dL_law_613 ?_
  refine x_sald (M := (M_law nm)) dL_law_614 (by decide) hx (vp_inD (by decide +kernel)) ?_
  refine x_top (M := (M_law nm)) (y := a0) ((congrArg xs (by decide +kernel : ((Int32.ofInt 1) + (Int32.ofInt 1)).toNatClampNeg = 2)).trans e2) ?_
  refine x_aload_n (M := (M_law nm)) dL_law_615 rfl ?_
  refine x_iload (M := (M_law nm)) dL_law_616 rfl ?_
  refine x_iconst (M := (M_law nm)) dL_law_618 ?_
  refine x_iadd (M := (M_law nm)) dL_law_619 ?_
  refine x_sald (M := (M_law nm)) dL_law_620 (by decide) hx (vp_inD (by decide +kernel)) ?_
  refine x_top (M := (M_law nm)) (y := a1) ((congrArg xs (by decide +kernel : ((Int32.ofInt 1) + (Int32.ofInt 2)).toNatClampNeg = 3)).trans e3) ?_
  have o1252 := (f1234 277 _ (by decide) o1251)
  have o1254 := (f1234 280 _ (by decide) o1253)
  refine y_callVR (M := (M_law nm)) (M' := M_X12_writeBytes) rfl rfl dL_law_621 m_X12_writeBytes t_3074 t_3075 t_3076 (q1250 hl c0 c1 o1252 o1254) rfl rfl o1252 rfl (Nat.le_of_ble_eq_true rfl) (Nat.le_of_ble_eq_true rfl) (Nat.le_of_ble_eq_true rfl) (Nat.le_of_ble_eq_true rfl) (fun h1255 f1256 w1257 => ?_)
  obtain ⟨o1258, -⟩ := w1257
  refine x_istore (M := (M_law nm)) dL_law_624 (Nat.le_of_ble_eq_true rfl) rfl ?_
  refine x_aload_n (M := (M_law nm)) dL_law_626 rfl ?_
  refine x_callVR (M := (M_law nm)) (M' := M_X12_thrown) rfl rfl dL_law_627 m_X12_thrown t_2797 t_2798 t_2799 (q774 hl o1258) rfl rfl o1258 rfl (Nat.le_of_ble_eq_true rfl) (Nat.le_of_ble_eq_true rfl) (Nat.le_of_ble_eq_true rfl) (Nat.le_of_ble_eq_true rfl) ?_
  refine x_iload (M := (M_law nm)) dL_law_630 rfl ?_
  refine x_icmp_eq (M := (M_law nm)) (tgt := 637) dL_law_632 (by decide) (fun _ => ?_) (fun q => absurd q (by decide +kernel))
  refine x_iload (M := (M_law nm)) dL_law_637 rfl ?_
  refine x_if_ne (M := (M_law nm)) (tgt := 654) dL_law_639 (by decide) (fun _ => ?_) (fun q => absurd q (by decide +kernel))
  refine x_goto (M := (M_law nm)) (tgt := 2449) dL_law_654 (by decide) ?_
  refine x_iinc (M := (M_law nm)) dL_law_2449 rfl (Nat.le_of_ble_eq_true rfl) rfl ?_
  refine x_lvs (M := (M_law nm)) (lv' := [some (.ref 0), some (.ref 32), some (.ref 277), some (.ref 359), some (.int (Int32.ofInt 7)), some (.int (Int32.ofInt 2)), some (.int (Int32.ofInt 0)), none]) (by rw [(by decide +kernel : (Int32.ofInt 1) + Int32.ofInt 6 = (Int32.ofInt 7))] <;> rfl) ?_
  refine x_goto (M := (M_law nm)) (tgt := 33) dL_law_2452 (by decide) ?_
  refine x_iload (M := (M_law nm)) dL_law_33 rfl ?_
  refine x_aload_n (M := (M_law nm)) dL_law_35 rfl ?_
  refine x_slen (M := (M_law nm)) dL_law_36 (by decide) hx ?_
  refine x_bipush (M := (M_law nm)) dL_law_37 ?_
  refine x_isub (M := (M_law nm)) dL_law_39 ?_
  refine x_icmp_gt (M := (M_law nm)) (tgt := 2455) dL_law_40 (by decide) (fun _ => ?_) (fun q => absurd q (by decide +kernel))
  refine x_iconst (M := (M_law nm)) dL_law_2455 ?_
  exact x_zret (M := (M_law nm)) dL_law_2456 rfl (by decide) rfl (Nat.le_of_ble_eq_true rfl) (Nat.le_of_ble_eq_true rfl)
set_option maxRecDepth 10000 in
theorem q1263 {l : Launch} {E : EE} (hl : l.stackTraces = false) {h : HP} {a0 : Int32} {a1 : Int32} (c0 : ¬ (a0.toInt < 0)) (c1 : ¬ (a0.toInt < 32)) (o1259 : ob h 32 = some (.inr (14, [.ref 33, .ref 162, .ref 166, .int (0 : Int32), .int (0 : Int32), .int (0 : Int32), .ref 167, .ref 170, .ref 173, .ref 177, .ref 193, .ref 208, .ref 222, .ref 238, .ref 252, .ref 274, .ref 275, .ref 276, .int (0 : Int32)]))) : en_C l E M_X11_writeBytes 7 1 6 [.ref 32, .int a0, .int a1] h (pT "java/lang/IndexOutOfBoundsException" [] h (fun _ => True)) := by
  refine en_mk m_X11_writeBytes rfl hl (Nat.le_of_ble_eq_true rfl) ?_
  refine x_aload_n (M := M_X11_writeBytes) dX11_writeBytes_0 rfl ?_
  refine x_iload_n (M := M_X11_writeBytes) dX11_writeBytes_1 rfl ?_
  exact y_callVX (M := M_X11_writeBytes) (M' := M_X11_slotNumbered) rfl rfl dX11_writeBytes_2 m_X11_slotNumbered t_744 t_746 s_2 (q511 hl c0 c1) rfl rfl o1259 rfl (Nat.le_of_ble_eq_true rfl) (Nat.le_of_ble_eq_true rfl) (Nat.le_of_ble_eq_true rfl) (Nat.le_of_ble_eq_true rfl) (fun h1260 f1261 w1262 => ⟨rfl, (fr_tr f1261 (fun _ h => nomatch h) fr_rf), trivial⟩)
set_option maxRecDepth 10000 in
theorem q1268 {l : Launch} {E : EE} (hl : l.stackTraces = false) {h : HP} {a0 : Int32} {a1 : Int32} (c0 : ¬ (a0.toInt < 0)) (c1 : ¬ (a0.toInt < 32)) (o1264 : ob h 32 = some (.inr (14, [.ref 33, .ref 162, .ref 166, .int (0 : Int32), .int (0 : Int32), .int (0 : Int32), .ref 167, .ref 170, .ref 173, .ref 177, .ref 193, .ref 208, .ref 222, .ref 238, .ref 252, .ref 274, .ref 275, .ref 276, .int (0 : Int32)]))) : en_C l E M_L_writeBytes 8 1 6 [.ref 32, .int a0, .int a1, .ref 359] h (pF (some (.int (Int32.ofInt 1))) [] h (fun _ => True)) := by
  refine en_mkW m_L_writeBytes rfl hl (Nat.le_of_ble_eq_true rfl) ?_
  refine x_aload_n (M := M_L_writeBytes) dL_writeBytes_0 rfl ?_
  refine x_iconst (M := M_L_writeBytes) dL_writeBytes_1 ?_
  refine x_aload_n (M := M_L_writeBytes) dL_writeBytes_2 rfl ?_
  refine x_iload_n (M := M_L_writeBytes) dL_writeBytes_3 rfl ?_
  refine x_iload_n (M := M_L_writeBytes) dL_writeBytes_4 rfl ?_
  refine y_callVHX (M := M_L_writeBytes) (M' := M_X11_writeBytes) (i9 := 4) (nx := 15) rfl dL_writeBytes_5 m_X11_writeBytes t_1113 t_1114 t_1115 o1264 rfl (q1263 hl c0 c1 o1264) rfl rfl (Nat.le_of_ble_eq_true rfl) (Nat.le_of_ble_eq_true rfl) (Nat.le_of_ble_eq_true rfl) (Nat.le_of_ble_eq_true rfl) (en_hdm (k0 := 4) [] [(0, 10, 17, 13), (0, 10, 21, 19)] rfl (fun _ h => nomatch h) (by decide +kernel) (by decide) t_739 n_750 dL_writeBytes_13) (by decide) rfl (fun h1265 f1266 w1267 => ?_)
  refine x_iconst (M := M_L_writeBytes) dL_writeBytes_15 ?_
  exact x_iret (M := M_L_writeBytes) dL_writeBytes_16 rfl ⟨rfl, (fr_tr f1266 (fun _ h => nomatch h) fr_rf), trivial⟩ (Nat.le_of_ble_eq_true rfl) (Nat.le_of_ble_eq_true rfl)
set_option maxRecDepth 10000 in
theorem q1281 {l : Launch} {E : EE} (hl : l.stackTraces = false) {h : HP} {a0 : Int32} {a1 : Int32} {dg : Int32} (c0 : ¬ (a0.toInt < 0)) (c1 : ¬ (a0.toInt < 32)) (o1273 : ob h 277 = some (.inr (15, (RB dg)))) : en_C l E M_X12_writeBytes 1 0 0 [.ref 277, .int a0, .int a1] h (pF (some (.int (Int32.ofInt 0))) [277] h (fun h' => ob h' 277 = some (.inr (15, ((RB dg).set 0 (.int (Int32.ofInt 1))))) ∧ True)) := by
  refine en_mk m_X12_writeBytes rfl hl (Nat.le_of_ble_eq_true rfl) ?_
  refine x_aload_n (M := M_X12_writeBytes) dX12_writeBytes_0 rfl ?_
  refine x_iconst (M := M_X12_writeBytes) dX12_writeBytes_1 ?_
  refine y_put (M := M_X12_writeBytes) (ci := 15) (C := RX12) (T := TX12) (N := 135) (ty := tyX12) cl15 dX12_writeBytes_2 o1273 0 (by decide) t_2391 (Or.inl rfl) (Nat.le_of_ble_eq_true rfl) rfl (fun h1274 w1275 f1276 => ?_)
  refine x_aload_n (M := M_X12_writeBytes) dX12_writeBytes_5 rfl ?_
  refine x_iload_n (M := M_X12_writeBytes) dX12_writeBytes_6 rfl ?_
  refine x_callSR (M := M_X12_writeBytes) (M' := M_X12_isSlot) rfl rfl dX12_writeBytes_7 m_X12_isSlot t_2841 t_2842 (q530 hl c0 c1) rfl rfl (Nat.le_of_ble_eq_true rfl) (Nat.le_of_ble_eq_true rfl) (Nat.le_of_ble_eq_true rfl) (Nat.le_of_ble_eq_true rfl) ?_
  refine x_if_ne (M := M_X12_writeBytes) (tgt := 17) dX12_writeBytes_10 (by decide) (fun q => absurd q (by decide +kernel)) (fun _ => ?_)
  refine x_iconst (M := M_X12_writeBytes) dX12_writeBytes_13 ?_
  refine x_goto (M := M_X12_writeBytes) (tgt := 18) dX12_writeBytes_14 (by decide) ?_
  refine x_iconst (M := M_X12_writeBytes) dX12_writeBytes_18 ?_
  refine y_callVR (M := M_X12_writeBytes) (M' := M_X12_fails) rfl rfl dX12_writeBytes_19 m_X12_fails t_2805 t_2807 s_157 (q22 hl w1275) rfl rfl w1275 rfl (Nat.le_of_ble_eq_true rfl) (Nat.le_of_ble_eq_true rfl) (Nat.le_of_ble_eq_true rfl) (Nat.le_of_ble_eq_true rfl) (fun h1277 f1278 w1279 => ?_)
  obtain ⟨o1280, -⟩ := w1279
  refine x_if_ne (M := M_X12_writeBytes) (tgt := 69) dX12_writeBytes_22 (by decide) (fun _ => ?_) (fun q => absurd q (by decide +kernel))
  refine x_iconst (M := M_X12_writeBytes) dX12_writeBytes_69 ?_
  exact x_iret (M := M_X12_writeBytes) dX12_writeBytes_70 rfl ⟨rfl, (fr_tr f1278 (by decide) (fr_tr f1276 (by decide) fr_rf)), ⟨o1280, trivial⟩⟩ (Nat.le_of_ble_eq_true rfl) (Nat.le_of_ble_eq_true rfl)
set_option maxRecDepth 10000 in
theorem lc7_2 {l : Launch} {E : EE} (hl : l.stackTraces = false) (nm : String) {xs : Nat → Int32} (hx : E.2.2.2.2 0 = some (7, xs)) {h : HP} {a0 : Int32} {a1 : Int32} {dg : Int32} (e2 : xs 2 = a0) (e3 : xs 3 = a1) (c0 : ¬ (a0.toInt < 0)) (c1 : ¬ (a0.toInt < 32)) (o1269 : ob h 32 = some (.inr (14, [.ref 33, .ref 162, .ref 166, .int (0 : Int32), .int (0 : Int32), .int (0 : Int32), .ref 167, .ref 170, .ref 173, .ref 177, .ref 193, .ref 208, .ref 222, .ref 238, .ref 252, .ref 274, .ref 275, .ref 276, .int (0 : Int32)]))) (o1282 : ob h 277 = some (.inr (15, (RB dg)))) : XX l E (M_law nm) 1312 342628 8074320 (fun o _ => o = .inl (some (.int 1))) 589 [some (.ref 0), some (.ref 32), some (.ref 277), some (.ref 359), some (.int (Int32.ofInt 1)), none, none, none] [] h 328 2463747 := by
  refine x_aload_n (M := (M_law nm)) dL_law_589 rfl ?_
  refine x_aload_n (M := (M_law nm)) dL_law_590 rfl ?_
  refine x_iload (M := (M_law nm)) dL_law_591 rfl ?_
  refine x_iconst (M := (M_law nm)) dL_law_593 ?_
  refine x_iadd (M := (M_law nm)) dL_law_594 ?_
  refine x_sald (M := (M_law nm)) dL_law_595 (by decide) hx (vp_inD (by decide +kernel)) ?_
  refine x_top (M := (M_law nm)) (y := a0) ((congrArg xs (by decide +kernel : ((Int32.ofInt 1) + (Int32.ofInt 1)).toNatClampNeg = 2)).trans e2) ?_
  refine x_aload_n (M := (M_law nm)) dL_law_596 rfl ?_
  refine x_iload (M := (M_law nm)) dL_law_597 rfl ?_
  refine x_iconst (M := (M_law nm)) dL_law_599 ?_
  refine x_iadd (M := (M_law nm)) dL_law_600 ?_
  refine x_sald (M := (M_law nm)) dL_law_601 (by decide) hx (vp_inD (by decide +kernel)) ?_
  refine x_top (M := (M_law nm)) (y := a1) ((congrArg xs (by decide +kernel : ((Int32.ofInt 1) + (Int32.ofInt 2)).toNatClampNeg = 3)).trans e3) ?_
  refine x_aload_n (M := (M_law nm)) dL_law_602 rfl ?_
  refine y_callSW (M := (M_law nm)) (M' := M_L_writeBytes) rfl rfl dL_law_603 m_L_writeBytes t_1110 t_1111 (q1268 hl c0 c1 o1269) rfl rfl (Nat.le_of_ble_eq_true rfl) (Nat.le_of_ble_eq_true rfl) (Nat.le_of_ble_eq_true rfl) (Nat.le_of_ble_eq_true rfl) (fun h1270 f1271 w1272 => ?_)
  refine x_istore (M := (M_law nm)) dL_law_606 (Nat.le_of_ble_eq_true rfl) rfl ?_
  refine x_aload_n (M := (M_law nm)) dL_law_608 rfl ?_
  refine x_aload_n (M := (M_law nm)) dL_law_609 rfl ?_
  refine x_iload (M := (M_law nm)) dL_law_610 rfl ?_
  refine x_iconst (M := (M_law nm)) dL_law_612 ?_
  refine x_iadd (M := (M_law nm)) dL_law_613 ?_
  refine x_sald (M := (M_law nm)) dL_law_614 (by decide) hx (vp_inD (by decide +kernel)) ?_
  refine x_top (M := (M_law nm)) (y := a0) ((congrArg xs (by decide +kernel : ((Int32.ofInt 1) + (Int32.ofInt 1)).toNatClampNeg = 2)).trans e2) ?_
  refine x_aload_n (M := (M_law nm)) dL_law_615 rfl ?_
  refine x_iload (M := (M_law nm)) dL_law_616 rfl ?_
  refine x_iconst (M := (M_law nm)) dL_law_618 ?_
  refine x_iadd (M := (M_law nm)) dL_law_619 ?_
  refine x_sald (M := (M_law nm)) dL_law_620 (by decide) hx (vp_inD (by decide +kernel)) ?_
  refine x_top (M := (M_law nm)) (y := a1) ((congrArg xs (by decide +kernel : ((Int32.ofInt 1) + (Int32.ofInt 2)).toNatClampNeg = 3)).trans e3) ?_
  have o1283 := (f1271 277 _ (by decide) o1282)
  refine y_callVR (M := (M_law nm)) (M' := M_X12_writeBytes) rfl rfl dL_law_621 m_X12_writeBytes t_3074 t_3075 t_3076 (q1281 hl c0 c1 o1283) rfl rfl o1283 rfl (Nat.le_of_ble_eq_true rfl) (Nat.le_of_ble_eq_true rfl) (Nat.le_of_ble_eq_true rfl) (Nat.le_of_ble_eq_true rfl) (fun h1284 f1285 w1286 => ?_)
  obtain ⟨o1287, -⟩ := w1286
  refine x_istore (M := (M_law nm)) dL_law_624 (Nat.le_of_ble_eq_true rfl) rfl ?_
  refine x_aload_n (M := (M_law nm)) dL_law_626 rfl ?_
  refine x_callVR (M := (M_law nm)) (M' := M_X12_thrown) rfl rfl dL_law_627 m_X12_thrown t_2797 t_2798 t_2799 (q35 hl o1287) rfl rfl o1287 rfl (Nat.le_of_ble_eq_true rfl) (Nat.le_of_ble_eq_true rfl) (Nat.le_of_ble_eq_true rfl) (Nat.le_of_ble_eq_true rfl) ?_
  refine x_iload (M := (M_law nm)) dL_law_630 rfl ?_
  refine x_icmp_eq (M := (M_law nm)) (tgt := 637) dL_law_632 (by decide) (fun _ => ?_) (fun q => absurd q (by decide +kernel))
  refine x_iload (M := (M_law nm)) dL_law_637 rfl ?_
  refine x_if_ne (M := (M_law nm)) (tgt := 654) dL_law_639 (by decide) (fun _ => ?_) (fun q => absurd q (by decide +kernel))
  refine x_goto (M := (M_law nm)) (tgt := 2449) dL_law_654 (by decide) ?_
  refine x_iinc (M := (M_law nm)) dL_law_2449 rfl (Nat.le_of_ble_eq_true rfl) rfl ?_
  refine x_lvs (M := (M_law nm)) (lv' := [some (.ref 0), some (.ref 32), some (.ref 277), some (.ref 359), some (.int (Int32.ofInt 7)), some (.int (Int32.ofInt 1)), some (.int (Int32.ofInt 0)), none]) (by rw [(by decide +kernel : (Int32.ofInt 1) + Int32.ofInt 6 = (Int32.ofInt 7))] <;> rfl) ?_
  refine x_goto (M := (M_law nm)) (tgt := 33) dL_law_2452 (by decide) ?_
  refine x_iload (M := (M_law nm)) dL_law_33 rfl ?_
  refine x_aload_n (M := (M_law nm)) dL_law_35 rfl ?_
  refine x_slen (M := (M_law nm)) dL_law_36 (by decide) hx ?_
  refine x_bipush (M := (M_law nm)) dL_law_37 ?_
  refine x_isub (M := (M_law nm)) dL_law_39 ?_
  refine x_icmp_gt (M := (M_law nm)) (tgt := 2455) dL_law_40 (by decide) (fun _ => ?_) (fun q => absurd q (by decide +kernel))
  refine x_iconst (M := (M_law nm)) dL_law_2455 ?_
  exact x_zret (M := (M_law nm)) dL_law_2456 rfl (by decide) rfl (Nat.le_of_ble_eq_true rfl) (Nat.le_of_ble_eq_true rfl)
theorem lop7 {l : Launch} {E : EE} (hl : l.stackTraces = false) (nm : String) {xs : Nat → Int32} (hx : E.2.2.2.2 0 = some (7, xs)) (dg : Int32) : XX l E (M_law nm) 1312 342628 8074320 (fun o _ => o = .inl (some (.int 1))) 589 [some (.ref 0), some (.ref 32), some (.ref 277), some (.ref 359), some (.int (Int32.ofInt 1)), none, none, none] [] (HH dg) 328 2463747 := by
  obtain ⟨a0, e2⟩ : ∃ a : Int32, xs 2 = a := ⟨_, rfl⟩
  obtain ⟨a1, e3⟩ : ∃ a : Int32, xs 3 = a := ⟨_, rfl⟩
  obtain ⟨a2, e4⟩ : ∃ a : Int32, xs 4 = a := ⟨_, rfl⟩
  obtain ⟨a3, e5⟩ : ∃ a : Int32, xs 5 = a := ⟨_, rfl⟩
  obtain ⟨a4, e6⟩ : ∃ a : Int32, xs 6 = a := ⟨_, rfl⟩
  by_cases c0 : a0.toInt < 0
  · exact lc7_0 hl nm hx e2 e3 c0 (o_32 dg) (o_277b dg)
  · by_cases c1 : a0.toInt < 32
    · have n_a0 : a0.toNatClampNeg < 32 := nc_lt (by omega) (by decide)
      exact lc7_1 hl nm hx e2 e3 c0 c1 (o_32 dg) (o_33 dg) (o_sh dg a0.toNatClampNeg n_a0) (o_277b dg) (oMR (dg := dg) (k := 2) rfl)
    · exact lc7_2 hl nm hx e2 e3 c0 c1 (o_32 dg) (o_277b dg)
set_option maxRecDepth 10000 in
theorem q1292 {l : Launch} {E : EE} (hl : l.stackTraces = false) {h : HP} {a0 : Int32} (c0 : a0.toInt < 0) (o1288 : ob h 32 = some (.inr (14, [.ref 33, .ref 162, .ref 166, .int (0 : Int32), .int (0 : Int32), .int (0 : Int32), .ref 167, .ref 170, .ref 173, .ref 177, .ref 193, .ref 208, .ref 222, .ref 238, .ref 252, .ref 274, .ref 275, .ref 276, .int (0 : Int32)]))) : en_C l E M_X11_drop 7 1 6 [.ref 32, .int a0] h (pT "java/lang/IndexOutOfBoundsException" [] h (fun _ => True)) := by
  refine en_mk m_X11_drop rfl hl (Nat.le_of_ble_eq_true rfl) ?_
  refine x_aload_n (M := M_X11_drop) dX11_drop_0 rfl ?_
  refine x_iload_n (M := M_X11_drop) dX11_drop_1 rfl ?_
  exact y_callVX (M := M_X11_drop) (M' := M_X11_slotNumbered) rfl rfl dX11_drop_2 m_X11_slotNumbered t_744 t_746 s_2 (q392 hl c0) rfl rfl o1288 rfl (Nat.le_of_ble_eq_true rfl) (Nat.le_of_ble_eq_true rfl) (Nat.le_of_ble_eq_true rfl) (Nat.le_of_ble_eq_true rfl) (fun h1289 f1290 w1291 => ⟨rfl, (fr_tr f1290 (fun _ h => nomatch h) fr_rf), trivial⟩)
set_option maxRecDepth 10000 in
theorem q1297 {l : Launch} {E : EE} (hl : l.stackTraces = false) {h : HP} {a0 : Int32} (c0 : a0.toInt < 0) (o1293 : ob h 32 = some (.inr (14, [.ref 33, .ref 162, .ref 166, .int (0 : Int32), .int (0 : Int32), .int (0 : Int32), .ref 167, .ref 170, .ref 173, .ref 177, .ref 193, .ref 208, .ref 222, .ref 238, .ref 252, .ref 274, .ref 275, .ref 276, .int (0 : Int32)]))) : en_C l E M_L_drop 8 1 6 [.ref 32, .int a0, .ref 359] h (pF (some (.int (Int32.ofInt 1))) [] h (fun _ => True)) := by
  refine en_mkW m_L_drop rfl hl (Nat.le_of_ble_eq_true rfl) ?_
  refine x_aload_n (M := M_L_drop) dL_drop_0 rfl ?_
  refine x_iconst (M := M_L_drop) dL_drop_1 ?_
  refine x_aload_n (M := M_L_drop) dL_drop_2 rfl ?_
  refine x_iload_n (M := M_L_drop) dL_drop_3 rfl ?_
  refine y_callVHX (M := M_L_drop) (M' := M_X11_drop) (i9 := 3) (nx := 20) rfl dL_drop_4 m_X11_drop t_1158 t_1159 t_1160 o1293 rfl (q1292 hl c0 o1293) rfl rfl (Nat.le_of_ble_eq_true rfl) (Nat.le_of_ble_eq_true rfl) (Nat.le_of_ble_eq_true rfl) (Nat.le_of_ble_eq_true rfl) (en_hdn (k0 := 3) [] [] rfl (fun _ h => nomatch h) (by decide +kernel) (by decide) t_739 n_750 dL_drop_19) (by decide) rfl (fun h1294 f1295 w1296 => ?_)
  refine x_iconst (M := M_L_drop) dL_drop_20 ?_
  exact x_iret (M := M_L_drop) dL_drop_21 rfl ⟨rfl, (fr_tr f1295 (fun _ h => nomatch h) fr_rf), trivial⟩ (Nat.le_of_ble_eq_true rfl) (Nat.le_of_ble_eq_true rfl)
set_option maxRecDepth 10000 in
theorem q1310 {l : Launch} {E : EE} (hl : l.stackTraces = false) {h : HP} {a0 : Int32} {dg : Int32} (c0 : a0.toInt < 0) (o1302 : ob h 277 = some (.inr (15, (RB dg)))) : en_C l E M_X12_drop 1 0 0 [.ref 277, .int a0] h (pF (some (.int (Int32.ofInt 0))) [277] h (fun h' => ob h' 277 = some (.inr (15, ((RB dg).set 0 (.int (Int32.ofInt 1))))) ∧ True)) := by
  refine en_mk m_X12_drop rfl hl (Nat.le_of_ble_eq_true rfl) ?_
  refine x_aload_n (M := M_X12_drop) dX12_drop_0 rfl ?_
  refine x_iconst (M := M_X12_drop) dX12_drop_1 ?_
  refine y_put (M := M_X12_drop) (ci := 15) (C := RX12) (T := TX12) (N := 135) (ty := tyX12) cl15 dX12_drop_2 o1302 0 (by decide) t_2391 (Or.inl rfl) (Nat.le_of_ble_eq_true rfl) rfl (fun h1303 w1304 f1305 => ?_)
  refine x_aload_n (M := M_X12_drop) dX12_drop_5 rfl ?_
  refine x_iload_n (M := M_X12_drop) dX12_drop_6 rfl ?_
  refine x_callSR (M := M_X12_drop) (M' := M_X12_isSlot) rfl rfl dX12_drop_7 m_X12_isSlot t_2841 t_2842 (q411 hl c0) rfl rfl (Nat.le_of_ble_eq_true rfl) (Nat.le_of_ble_eq_true rfl) (Nat.le_of_ble_eq_true rfl) (Nat.le_of_ble_eq_true rfl) ?_
  refine x_if_ne (M := M_X12_drop) (tgt := 17) dX12_drop_10 (by decide) (fun q => absurd q (by decide +kernel)) (fun _ => ?_)
  refine x_iconst (M := M_X12_drop) dX12_drop_13 ?_
  refine x_goto (M := M_X12_drop) (tgt := 18) dX12_drop_14 (by decide) ?_
  refine x_iconst (M := M_X12_drop) dX12_drop_18 ?_
  refine y_callVR (M := M_X12_drop) (M' := M_X12_fails) rfl rfl dX12_drop_19 m_X12_fails t_2805 t_2807 s_157 (q22 hl w1304) rfl rfl w1304 rfl (Nat.le_of_ble_eq_true rfl) (Nat.le_of_ble_eq_true rfl) (Nat.le_of_ble_eq_true rfl) (Nat.le_of_ble_eq_true rfl) (fun h1306 f1307 w1308 => ?_)
  obtain ⟨o1309, -⟩ := w1308
  refine x_if_eq (M := M_X12_drop) (tgt := 27) dX12_drop_22 (by decide) (fun q => absurd q (by decide +kernel)) (fun _ => ?_)
  refine x_iconst (M := M_X12_drop) dX12_drop_25 ?_
  exact x_zret (M := M_X12_drop) dX12_drop_26 rfl (by decide) ⟨rfl, (fr_tr f1307 (by decide) (fr_tr f1305 (by decide) fr_rf)), ⟨o1309, trivial⟩⟩ (Nat.le_of_ble_eq_true rfl) (Nat.le_of_ble_eq_true rfl)
set_option maxRecDepth 10000 in
theorem lc10_0 {l : Launch} {E : EE} (hl : l.stackTraces = false) (nm : String) {xs : Nat → Int32} (hx : E.2.2.2.2 0 = some (7, xs)) {h : HP} {a0 : Int32} {dg : Int32} (e2 : xs 2 = a0) (c0 : a0.toInt < 0) (o1298 : ob h 32 = some (.inr (14, [.ref 33, .ref 162, .ref 166, .int (0 : Int32), .int (0 : Int32), .int (0 : Int32), .ref 167, .ref 170, .ref 173, .ref 177, .ref 193, .ref 208, .ref 222, .ref 238, .ref 252, .ref 274, .ref 275, .ref 276, .int (0 : Int32)]))) (o1311 : ob h 277 = some (.inr (15, (RB dg)))) : XX l E (M_law nm) 1312 342628 8074320 (fun o _ => o = .inl (some (.int 1))) 781 [some (.ref 0), some (.ref 32), some (.ref 277), some (.ref 359), some (.int (Int32.ofInt 1)), none, none, none] [] h 328 2463747 := by
  refine x_aload_n (M := (M_law nm)) dL_law_781 rfl ?_
  refine x_aload_n (M := (M_law nm)) dL_law_782 rfl ?_
  refine x_iload (M := (M_law nm)) dL_law_783 rfl ?_
  refine x_iconst (M := (M_law nm)) dL_law_785 ?_
  refine x_iadd (M := (M_law nm)) dL_law_786 ?_
  refine x_sald (M := (M_law nm)) dL_law_787 (by decide) hx (vp_inD (by decide +kernel)) ?_
  refine x_top (M := (M_law nm)) (y := a0) ((congrArg xs (by decide +kernel : ((Int32.ofInt 1) + (Int32.ofInt 1)).toNatClampNeg = 2)).trans e2) ?_
  refine x_aload_n (M := (M_law nm)) dL_law_788 rfl ?_
  refine y_callSW (M := (M_law nm)) (M' := M_L_drop) rfl rfl dL_law_789 m_L_drop t_1155 t_1156 (q1297 hl c0 o1298) rfl rfl (Nat.le_of_ble_eq_true rfl) (Nat.le_of_ble_eq_true rfl) (Nat.le_of_ble_eq_true rfl) (Nat.le_of_ble_eq_true rfl) (fun h1299 f1300 w1301 => ?_)
  refine x_istore (M := (M_law nm)) dL_law_792 (Nat.le_of_ble_eq_true rfl) rfl ?_
  refine x_aload_n (M := (M_law nm)) dL_law_794 rfl ?_
  refine x_aload_n (M := (M_law nm)) dL_law_795 rfl ?_
  refine x_iload (M := (M_law nm)) dL_law_796 rfl ?_
  refine x_iconst (M := (M_law nm)) dL_law_798 ?_
  refine x_iadd (M := (M_law nm)) dL_law_799 ?_
  refine x_sald (M := (M_law nm)) dL_law_800 (by decide) hx (vp_inD (by decide +kernel)) ?_
  refine x_top (M := (M_law nm)) (y := a0) ((congrArg xs (by decide +kernel : ((Int32.ofInt 1) + (Int32.ofInt 1)).toNatClampNeg = 2)).trans e2) ?_
  have o1312 := (f1300 277 _ (by decide) o1311)
  refine y_callVR (M := (M_law nm)) (M' := M_X12_drop) rfl rfl dL_law_801 m_X12_drop t_3098 t_3099 t_3100 (q1310 hl c0 o1312) rfl rfl o1312 rfl (Nat.le_of_ble_eq_true rfl) (Nat.le_of_ble_eq_true rfl) (Nat.le_of_ble_eq_true rfl) (Nat.le_of_ble_eq_true rfl) (fun h1313 f1314 w1315 => ?_)
  obtain ⟨o1316, -⟩ := w1315
  refine x_istore (M := (M_law nm)) dL_law_804 (Nat.le_of_ble_eq_true rfl) rfl ?_
  refine x_aload_n (M := (M_law nm)) dL_law_806 rfl ?_
  refine x_callVR (M := (M_law nm)) (M' := M_X12_thrown) rfl rfl dL_law_807 m_X12_thrown t_2797 t_2798 t_2799 (q35 hl o1316) rfl rfl o1316 rfl (Nat.le_of_ble_eq_true rfl) (Nat.le_of_ble_eq_true rfl) (Nat.le_of_ble_eq_true rfl) (Nat.le_of_ble_eq_true rfl) ?_
  refine x_iload (M := (M_law nm)) dL_law_810 rfl ?_
  refine x_icmp_eq (M := (M_law nm)) (tgt := 817) dL_law_812 (by decide) (fun _ => ?_) (fun q => absurd q (by decide +kernel))
  refine x_iload (M := (M_law nm)) dL_law_817 rfl ?_
  refine x_if_ne (M := (M_law nm)) (tgt := 841) dL_law_819 (by decide) (fun _ => ?_) (fun q => absurd q (by decide +kernel))
  refine x_goto (M := (M_law nm)) (tgt := 2449) dL_law_841 (by decide) ?_
  refine x_iinc (M := (M_law nm)) dL_law_2449 rfl (Nat.le_of_ble_eq_true rfl) rfl ?_
  refine x_lvs (M := (M_law nm)) (lv' := [some (.ref 0), some (.ref 32), some (.ref 277), some (.ref 359), some (.int (Int32.ofInt 7)), some (.int (Int32.ofInt 1)), some (.int (Int32.ofInt 0)), none]) (by rw [(by decide +kernel : (Int32.ofInt 1) + Int32.ofInt 6 = (Int32.ofInt 7))] <;> rfl) ?_
  refine x_goto (M := (M_law nm)) (tgt := 33) dL_law_2452 (by decide) ?_
  refine x_iload (M := (M_law nm)) dL_law_33 rfl ?_
  refine x_aload_n (M := (M_law nm)) dL_law_35 rfl ?_
  refine x_slen (M := (M_law nm)) dL_law_36 (by decide) hx ?_
  refine x_bipush (M := (M_law nm)) dL_law_37 ?_
  refine x_isub (M := (M_law nm)) dL_law_39 ?_
  refine x_icmp_gt (M := (M_law nm)) (tgt := 2455) dL_law_40 (by decide) (fun _ => ?_) (fun q => absurd q (by decide +kernel))
  refine x_iconst (M := (M_law nm)) dL_law_2455 ?_
  exact x_zret (M := (M_law nm)) dL_law_2456 rfl (by decide) rfl (Nat.le_of_ble_eq_true rfl) (Nat.le_of_ble_eq_true rfl)
set_option maxRecDepth 10000 in
theorem q1327 {l : Launch} {E : EE} (hl : l.stackTraces = false) {h : HP} {a0 : Int32} (c0 : ¬ (a0.toInt < 0)) (c1 : a0.toInt < 32) (o1320 : ob h (34 + 4 * a0.toNatClampNeg) = some (.inr (9, [.ref (35 + 4 * a0.toNatClampNeg), .ref (36 + 4 * a0.toNatClampNeg), .ref (37 + 4 * a0.toNatClampNeg), .int (0 : Int32), .int (0 : Int32)]))) : en_C l E M_X6_clear 0 0 0 [.ref (34 + 4 * a0.toNatClampNeg)] h (pF none [(34 + 4 * a0.toNatClampNeg)] h (fun h' => ob h' (34 + 4 * a0.toNatClampNeg) = some (.inr (9, [.ref (35 + 4 * a0.toNatClampNeg), .ref (36 + 4 * a0.toNatClampNeg), .ref (37 + 4 * a0.toNatClampNeg), .int (Int32.ofInt 0), .int (Int32.ofInt 0)])) ∧ True)) := by
  have n_a0 : a0.toNatClampNeg < 32 := nc_lt (by omega) (by decide)
  refine en_mk m_X6_clear rfl hl (Nat.le_of_ble_eq_true rfl) ?_
  refine x_aload_n (M := M_X6_clear) dX6_clear_0 rfl ?_
  refine x_iconst (M := M_X6_clear) dX6_clear_1 ?_
  refine y_put (M := M_X6_clear) (ci := 9) (C := RX6) (T := TX6) (N := 5) (ty := tyX6) cl9 dX6_clear_2 o1320 3 (by decide) t_72 (Or.inl rfl) (Nat.le_of_ble_eq_true rfl) rfl (fun h1321 (w1322 : ob h1321 (34 + 4 * a0.toNatClampNeg) = some (.inr (9, [.ref (35 + 4 * a0.toNatClampNeg), .ref (36 + 4 * a0.toNatClampNeg), .ref (37 + 4 * a0.toNatClampNeg), .int (Int32.ofInt 0), .int (0 : Int32)]))) f1323 => ?_)
  refine x_aload_n (M := M_X6_clear) dX6_clear_5 rfl ?_
  refine x_iconst (M := M_X6_clear) dX6_clear_6 ?_
  refine y_put (M := M_X6_clear) (ci := 9) (C := RX6) (T := TX6) (N := 5) (ty := tyX6) cl9 dX6_clear_7 w1322 4 (by decide) t_83 (Or.inl rfl) (Nat.le_of_ble_eq_true rfl) rfl (fun h1324 (w1325 : ob h1324 (34 + 4 * a0.toNatClampNeg) = some (.inr (9, [.ref (35 + 4 * a0.toNatClampNeg), .ref (36 + 4 * a0.toNatClampNeg), .ref (37 + 4 * a0.toNatClampNeg), .int (Int32.ofInt 0), .int (Int32.ofInt 0)]))) f1326 => ?_)
  exact x_vret (M := M_X6_clear) dX6_clear_10 rfl ⟨rfl, (fr_tr f1326 (by simp) (fr_tr f1323 (by simp) fr_rf)), ⟨w1325, trivial⟩⟩ (Nat.le_of_ble_eq_true rfl) (Nat.le_of_ble_eq_true rfl)
set_option maxRecDepth 10000 in
theorem q1332 {l : Launch} {E : EE} (hl : l.stackTraces = false) {h : HP} {a0 : Int32} (c0 : ¬ (a0.toInt < 0)) (c1 : a0.toInt < 32) (o1317 : ob h 32 = some (.inr (14, [.ref 33, .ref 162, .ref 166, .int (0 : Int32), .int (0 : Int32), .int (0 : Int32), .ref 167, .ref 170, .ref 173, .ref 177, .ref 193, .ref 208, .ref 222, .ref 238, .ref 252, .ref 274, .ref 275, .ref 276, .int (0 : Int32)]))) (o1318 : ob h 33 = some (.inl (4, 32, .inr (.inr (.inr (.inr (shf 1 32))))))) (o1319 : ob h (34 + 4 * a0.toNatClampNeg) = some (.inr (9, [.ref (35 + 4 * a0.toNatClampNeg), .ref (36 + 4 * a0.toNatClampNeg), .ref (37 + 4 * a0.toNatClampNeg), .int (0 : Int32), .int (0 : Int32)]))) : en_C l E M_X11_drop 1 0 0 [.ref 32, .int a0] h (pF (some (.int (Int32.ofInt 0))) [(34 + 4 * a0.toNatClampNeg)] h (fun h' => ob h' (34 + 4 * a0.toNatClampNeg) = some (.inr (9, [.ref (35 + 4 * a0.toNatClampNeg), .ref (36 + 4 * a0.toNatClampNeg), .ref (37 + 4 * a0.toNatClampNeg), .int (Int32.ofInt 0), .int (Int32.ofInt 0)])) ∧ True)) := by
  have n_a0 : a0.toNatClampNeg < 32 := nc_lt (by omega) (by decide)
  refine en_mk m_X11_drop rfl hl (Nat.le_of_ble_eq_true rfl) ?_
  refine x_aload_n (M := M_X11_drop) dX11_drop_0 rfl ?_
  refine x_iload_n (M := M_X11_drop) dX11_drop_1 rfl ?_
  refine x_callVR (M := M_X11_drop) (M' := M_X11_slotNumbered) rfl rfl dX11_drop_2 m_X11_slotNumbered t_744 t_746 s_2 (q425 hl c0 c1 o1317 o1318) rfl rfl o1317 rfl (Nat.le_of_ble_eq_true rfl) (Nat.le_of_ble_eq_true rfl) (Nat.le_of_ble_eq_true rfl) (Nat.le_of_ble_eq_true rfl) ?_
  refine x_astore_n (M := M_X11_drop) dX11_drop_5 (Nat.le_of_ble_eq_true rfl) rfl ?_
  refine x_aload_n (M := M_X11_drop) dX11_drop_6 rfl ?_
  refine x_callVR (M := M_X11_drop) (M' := M_X6_isThere) rfl rfl dX11_drop_7 m_X6_isThere t_1050 t_1051 t_1052 (q807 hl c0 c1 o1319) rfl rfl o1319 rfl (Nat.le_of_ble_eq_true rfl) (Nat.le_of_ble_eq_true rfl) (Nat.le_of_ble_eq_true rfl) (Nat.le_of_ble_eq_true rfl) ?_
  refine x_istore_n (M := M_X11_drop) dX11_drop_10 (Nat.le_of_ble_eq_true rfl) rfl ?_
  refine x_aload_n (M := M_X11_drop) dX11_drop_11 rfl ?_
  refine y_callVR (M := M_X11_drop) (M' := M_X6_clear) rfl rfl dX11_drop_12 m_X6_clear t_949 t_768 t_769 (q1327 hl c0 c1 o1319) rfl rfl o1319 rfl (Nat.le_of_ble_eq_true rfl) (Nat.le_of_ble_eq_true rfl) (Nat.le_of_ble_eq_true rfl) (Nat.le_of_ble_eq_true rfl) (fun h1328 f1329 w1330 => ?_)
  obtain ⟨o1331, -⟩ := w1330
  refine x_iload_n (M := M_X11_drop) dX11_drop_15 rfl ?_
  exact x_zret (M := M_X11_drop) dX11_drop_16 rfl (by decide) ⟨rfl, (fr_tr f1329 (by simp) fr_rf), ⟨o1331, trivial⟩⟩ (Nat.le_of_ble_eq_true rfl) (Nat.le_of_ble_eq_true rfl)
set_option maxRecDepth 10000 in
theorem q1346 {l : Launch} {E : EE} (hl : l.stackTraces = false) {h : HP} {a0 : Int32} (c0 : ¬ (a0.toInt < 0)) (c1 : a0.toInt < 32) (o1333 : ob h 32 = some (.inr (14, [.ref 33, .ref 162, .ref 166, .int (0 : Int32), .int (0 : Int32), .int (0 : Int32), .ref 167, .ref 170, .ref 173, .ref 177, .ref 193, .ref 208, .ref 222, .ref 238, .ref 252, .ref 274, .ref 275, .ref 276, .int (0 : Int32)]))) (o1334 : ob h 33 = some (.inl (4, 32, .inr (.inr (.inr (.inr (shf 1 32))))))) (o1335 : ob h (34 + 4 * a0.toNatClampNeg) = some (.inr (9, [.ref (35 + 4 * a0.toNatClampNeg), .ref (36 + 4 * a0.toNatClampNeg), .ref (37 + 4 * a0.toNatClampNeg), .int (0 : Int32), .int (0 : Int32)]))) (o1340 : ob h 359 = some (.inl (1, 1, .inr (.inl (fun _ => 0))))) : en_C l E M_L_drop 2 0 0 [.ref 32, .int a0, .ref 359] h (pF (some (.int (Int32.ofInt 0))) [(34 + 4 * a0.toNatClampNeg), 359] h (fun h' => ob h' 359 = some (.inl (1, 1, .inr (.inl (fun _ => 0)))) ∧ True)) := by
  have n_a0 : a0.toNatClampNeg < 32 := nc_lt (by omega) (by decide)
  refine en_mkW m_L_drop rfl hl (Nat.le_of_ble_eq_true rfl) ?_
  refine x_aload_n (M := M_L_drop) dL_drop_0 rfl ?_
  refine x_iconst (M := M_L_drop) dL_drop_1 ?_
  refine x_aload_n (M := M_L_drop) dL_drop_2 rfl ?_
  refine x_iload_n (M := M_L_drop) dL_drop_3 rfl ?_
  refine y_callVHR (M := M_L_drop) (M' := M_X11_drop) rfl dL_drop_4 m_X11_drop t_1158 t_1159 t_1160 o1333 rfl (q1332 hl c0 c1 o1333 o1334 o1335) rfl rfl (Nat.le_of_ble_eq_true rfl) (Nat.le_of_ble_eq_true rfl) (Nat.le_of_ble_eq_true rfl) (Nat.le_of_ble_eq_true rfl) (fun h1336 f1337 w1338 => ?_)
  obtain ⟨o1339, -⟩ := w1338
  refine x_if_eq (M := M_L_drop) (tgt := 14) dL_drop_7 (by decide) (fun _ => ?_) (fun q => absurd q (by decide +kernel))
  refine x_lconst (M := M_L_drop) dL_drop_14 ?_
  refine x_norm (M := M_L_drop) (st' := [.long (Int64.ofInt 0), .int (Int32.ofInt 0), .ref 359]) rfl (vj_cons (by decide +kernel : (Int64.ofNat ((0 : Fin 2) : Nat)) = (Int64.ofInt 0)) rfl) rfl rfl rfl ?_
  have o1341 := (f1337 359 _ (by simp only [List.mem_cons, List.not_mem_nil, or_false, not_or]; omega) o1340)
  refine y_last (M := M_L_drop) (k := 0) dL_drop_15 o1341 (vp_inD (by decide +kernel)) (by decide +kernel) (fun h1342 w1343 f1344 => ?_)
  have w1345 : ob h1342 359 = some (.inl (1, 1, .inr (.inl (fun _ => 0)))) := by rw [w1343, uq_z (k := 0)]
  refine x_goto (M := M_L_drop) (tgt := 22) dL_drop_16 (by decide) ?_
  refine x_iconst (M := M_L_drop) dL_drop_22 ?_
  exact x_iret (M := M_L_drop) dL_drop_23 rfl ⟨rfl, (fr_tr f1344 (by simp) (fr_tr f1337 (by simp) fr_rf)), ⟨w1345, trivial⟩⟩ (Nat.le_of_ble_eq_true rfl) (Nat.le_of_ble_eq_true rfl)
set_option maxRecDepth 10000 in
theorem q1379 {l : Launch} {E : EE} (hl : l.stackTraces = false) {h : HP} {a0 : Int32} {dg : Int32} (c0 : ¬ (a0.toInt < 0)) (c1 : a0.toInt < 32) (o1365 : ob h 277 = some (.inr (15, ((RB dg).set 0 (.int (Int32.ofInt 0)))))) (o1366 : ob h 280 = some (.inl (0, 33, .inl (fun _ => 0)))) (o1372 : ob h 282 = some (.inl (0, 33, .inl (fun _ => 0)))) : en_C l E M_X12_clear 0 0 0 [.ref 277, .int a0] h (pF none [280, 282] h (fun h' => ob h' 280 = some (.inl (0, 33, .inl (fun _ => 0))) ∧ ob h' 282 = some (.inl (0, 33, .inl (fun _ => 0))) ∧ True)) := by
  refine en_mk m_X12_clear rfl hl (Nat.le_of_ble_eq_true rfl) ?_
  refine x_aload_n (M := M_X12_clear) dX12_clear_0 rfl ?_
  refine x_getf (M := M_X12_clear) (ci := 15) (C := RX12) (T := TX12) (N := 135) (ty := tyX12) cl15 dX12_clear_1 o1365 9 (by decide) t_2400 (v := .ref 280) rfl ?_
  refine x_iload_n (M := M_X12_clear) dX12_clear_4 rfl ?_
  refine x_iconst (M := M_X12_clear) dX12_clear_5 ?_
  refine y_iast (M := M_X12_clear) (k := a0.toNatClampNeg) dX12_clear_6 o1366 (vp_in_s (by omega) (by omega)) rfl (fun h1367 w1368 f1369 => ?_)
  have w1370 : ob h1367 280 = some (.inl (0, 33, .inl (fun _ => 0))) := by rw [w1368, up_z (k := a0.toNatClampNeg)]
  refine x_aload_n (M := M_X12_clear) dX12_clear_7 rfl ?_
  have o1371 := (f1369 277 _ (by decide) o1365)
  refine x_getf (M := M_X12_clear) (ci := 15) (C := RX12) (T := TX12) (N := 135) (ty := tyX12) cl15 dX12_clear_8 o1371 11 (by decide) t_2402 (v := .ref 282) rfl ?_
  refine x_iload_n (M := M_X12_clear) dX12_clear_11 rfl ?_
  refine x_iconst (M := M_X12_clear) dX12_clear_12 ?_
  have o1373 := (f1369 282 _ (by decide) o1372)
  refine y_iast (M := M_X12_clear) (k := a0.toNatClampNeg) dX12_clear_13 o1373 (vp_in_s (by omega) (by omega)) rfl (fun h1374 w1375 f1376 => ?_)
  have w1377 : ob h1374 282 = some (.inl (0, 33, .inl (fun _ => 0))) := by rw [w1375, up_z (k := a0.toNatClampNeg)]
  have o1378 := (f1376 280 _ (by decide) w1370)
  exact x_vret (M := M_X12_clear) dX12_clear_14 rfl ⟨rfl, (fr_tr f1376 (by decide) (fr_tr f1369 (by decide) fr_rf)), ⟨o1378, w1377, trivial⟩⟩ (Nat.le_of_ble_eq_true rfl) (Nat.le_of_ble_eq_true rfl)
set_option maxRecDepth 10000 in
theorem q1388 {l : Launch} {E : EE} (hl : l.stackTraces = false) {h : HP} {a0 : Int32} {dg : Int32} (c0 : ¬ (a0.toInt < 0)) (c1 : a0.toInt < 32) (o1355 : ob h 277 = some (.inr (15, (RB dg)))) (o1363 : ob h 280 = some (.inl (0, 33, .inl (fun _ => 0)))) (o1380 : ob h 282 = some (.inl (0, 33, .inl (fun _ => 0)))) : en_C l E M_X12_drop 1 0 0 [.ref 277, .int a0] h (pF (some (.int (Int32.ofInt 0))) [277, 280, 282] h (fun h' => ob h' 277 = some (.inr (15, ((RB dg).set 0 (.int (Int32.ofInt 0))))) ∧ ob h' 280 = some (.inl (0, 33, .inl (fun _ => 0))) ∧ ob h' 282 = some (.inl (0, 33, .inl (fun _ => 0))) ∧ True)) := by
  refine en_mk m_X12_drop rfl hl (Nat.le_of_ble_eq_true rfl) ?_
  refine x_aload_n (M := M_X12_drop) dX12_drop_0 rfl ?_
  refine x_iconst (M := M_X12_drop) dX12_drop_1 ?_
  refine y_put (M := M_X12_drop) (ci := 15) (C := RX12) (T := TX12) (N := 135) (ty := tyX12) cl15 dX12_drop_2 o1355 0 (by decide) t_2391 (Or.inl rfl) (Nat.le_of_ble_eq_true rfl) rfl (fun h1356 w1357 f1358 => ?_)
  refine x_aload_n (M := M_X12_drop) dX12_drop_5 rfl ?_
  refine x_iload_n (M := M_X12_drop) dX12_drop_6 rfl ?_
  refine x_callSR (M := M_X12_drop) (M' := M_X12_isSlot) rfl rfl dX12_drop_7 m_X12_isSlot t_2841 t_2842 (q447 hl c0 c1) rfl rfl (Nat.le_of_ble_eq_true rfl) (Nat.le_of_ble_eq_true rfl) (Nat.le_of_ble_eq_true rfl) (Nat.le_of_ble_eq_true rfl) ?_
  refine x_if_ne (M := M_X12_drop) (tgt := 17) dX12_drop_10 (by decide) (fun _ => ?_) (fun q => absurd q (by decide +kernel))
  refine x_iconst (M := M_X12_drop) dX12_drop_17 ?_
  refine x_iconst (M := M_X12_drop) dX12_drop_18 ?_
  refine y_callVR (M := M_X12_drop) (M' := M_X12_fails) rfl rfl dX12_drop_19 m_X12_fails t_2805 t_2807 s_157 (q241 hl w1357) rfl rfl w1357 rfl (Nat.le_of_ble_eq_true rfl) (Nat.le_of_ble_eq_true rfl) (Nat.le_of_ble_eq_true rfl) (Nat.le_of_ble_eq_true rfl) (fun h1359 f1360 w1361 => ?_)
  obtain ⟨o1362, -⟩ := w1361
  refine x_if_eq (M := M_X12_drop) (tgt := 27) dX12_drop_22 (by decide) (fun _ => ?_) (fun q => absurd q (by decide +kernel))
  refine x_aload_n (M := M_X12_drop) dX12_drop_27 rfl ?_
  refine x_iload_n (M := M_X12_drop) dX12_drop_28 rfl ?_
  have o1364 := (f1360 280 _ (by decide) (f1358 280 _ (by decide) o1363))
  refine x_callVR (M := M_X12_drop) (M' := M_X12_has) rfl rfl dX12_drop_29 m_X12_has t_3033 t_3035 s_197 (q839 hl c0 c1 o1362 o1364) rfl rfl o1362 rfl (Nat.le_of_ble_eq_true rfl) (Nat.le_of_ble_eq_true rfl) (Nat.le_of_ble_eq_true rfl) (Nat.le_of_ble_eq_true rfl) ?_
  refine x_istore_n (M := M_X12_drop) dX12_drop_32 (Nat.le_of_ble_eq_true rfl) rfl ?_
  refine x_aload_n (M := M_X12_drop) dX12_drop_33 rfl ?_
  refine x_iload_n (M := M_X12_drop) dX12_drop_34 rfl ?_
  have o1381 := (f1360 282 _ (by decide) (f1358 282 _ (by decide) o1380))
  refine y_callVR (M := M_X12_drop) (M' := M_X12_clear) rfl rfl dX12_drop_35 m_X12_clear t_2848 t_2850 s_161 (q1379 hl c0 c1 o1362 o1364 o1381) rfl rfl o1362 rfl (Nat.le_of_ble_eq_true rfl) (Nat.le_of_ble_eq_true rfl) (Nat.le_of_ble_eq_true rfl) (Nat.le_of_ble_eq_true rfl) (fun h1382 f1383 w1384 => ?_)
  obtain ⟨o1385, o1386, -⟩ := w1384
  refine x_iload_n (M := M_X12_drop) dX12_drop_38 rfl ?_
  have o1387 := (f1383 277 _ (by decide) o1362)
  exact x_zret (M := M_X12_drop) dX12_drop_39 rfl (by decide) ⟨rfl, (fr_tr f1383 (by decide) (fr_tr f1360 (by decide) (fr_tr f1358 (by decide) fr_rf))), ⟨o1387, o1385, o1386, trivial⟩⟩ (Nat.le_of_ble_eq_true rfl) (Nat.le_of_ble_eq_true rfl)
set_option maxRecDepth 10000 in
theorem lc10_1 {l : Launch} {E : EE} (hl : l.stackTraces = false) (nm : String) {xs : Nat → Int32} (hx : E.2.2.2.2 0 = some (7, xs)) {h : HP} {a0 : Int32} {dg : Int32} (e2 : xs 2 = a0) (c0 : ¬ (a0.toInt < 0)) (c1 : a0.toInt < 32) (o1347 : ob h 32 = some (.inr (14, [.ref 33, .ref 162, .ref 166, .int (0 : Int32), .int (0 : Int32), .int (0 : Int32), .ref 167, .ref 170, .ref 173, .ref 177, .ref 193, .ref 208, .ref 222, .ref 238, .ref 252, .ref 274, .ref 275, .ref 276, .int (0 : Int32)]))) (o1348 : ob h 33 = some (.inl (4, 32, .inr (.inr (.inr (.inr (shf 1 32))))))) (o1349 : ob h (34 + 4 * a0.toNatClampNeg) = some (.inr (9, [.ref (35 + 4 * a0.toNatClampNeg), .ref (36 + 4 * a0.toNatClampNeg), .ref (37 + 4 * a0.toNatClampNeg), .int (0 : Int32), .int (0 : Int32)]))) (o1350 : ob h 359 = some (.inl (1, 1, .inr (.inl (fun _ => 0))))) (o1389 : ob h 277 = some (.inr (15, (RB dg)))) (o1391 : ob h 280 = some (.inl (0, 33, .inl (fun _ => 0)))) (o1393 : ob h 282 = some (.inl (0, 33, .inl (fun _ => 0)))) : XX l E (M_law nm) 1312 342628 8074320 (fun o _ => o = .inl (some (.int 1))) 781 [some (.ref 0), some (.ref 32), some (.ref 277), some (.ref 359), some (.int (Int32.ofInt 1)), none, none, none] [] h 328 2463747 := by
  have n_a0 : a0.toNatClampNeg < 32 := nc_lt (by omega) (by decide)
  refine x_aload_n (M := (M_law nm)) dL_law_781 rfl ?_
  refine x_aload_n (M := (M_law nm)) dL_law_782 rfl ?_
  refine x_iload (M := (M_law nm)) dL_law_783 rfl ?_
  refine x_iconst (M := (M_law nm)) dL_law_785 ?_
  refine x_iadd (M := (M_law nm)) dL_law_786 ?_
  refine x_sald (M := (M_law nm)) dL_law_787 (by decide) hx (vp_inD (by decide +kernel)) ?_
  refine x_top (M := (M_law nm)) (y := a0) ((congrArg xs (by decide +kernel : ((Int32.ofInt 1) + (Int32.ofInt 1)).toNatClampNeg = 2)).trans e2) ?_
  refine x_aload_n (M := (M_law nm)) dL_law_788 rfl ?_
  refine y_callSW (M := (M_law nm)) (M' := M_L_drop) rfl rfl dL_law_789 m_L_drop t_1155 t_1156 (q1346 hl c0 c1 o1347 o1348 o1349 o1350) rfl rfl (Nat.le_of_ble_eq_true rfl) (Nat.le_of_ble_eq_true rfl) (Nat.le_of_ble_eq_true rfl) (Nat.le_of_ble_eq_true rfl) (fun h1351 f1352 w1353 => ?_)
  obtain ⟨o1354, -⟩ := w1353
  refine x_istore (M := (M_law nm)) dL_law_792 (Nat.le_of_ble_eq_true rfl) rfl ?_
  refine x_aload_n (M := (M_law nm)) dL_law_794 rfl ?_
  refine x_aload_n (M := (M_law nm)) dL_law_795 rfl ?_
  refine x_iload (M := (M_law nm)) dL_law_796 rfl ?_
  refine x_iconst (M := (M_law nm)) dL_law_798 ?_
  refine x_iadd (M := (M_law nm)) dL_law_799 ?_
  refine x_sald (M := (M_law nm)) dL_law_800 (by decide) hx (vp_inD (by decide +kernel)) ?_
  refine x_top (M := (M_law nm)) (y := a0) ((congrArg xs (by decide +kernel : ((Int32.ofInt 1) + (Int32.ofInt 1)).toNatClampNeg = 2)).trans e2) ?_
  have o1390 := (f1352 277 _ (by simp only [List.mem_cons, List.not_mem_nil, or_false, not_or]; omega) o1389)
  have o1392 := (f1352 280 _ (by simp only [List.mem_cons, List.not_mem_nil, or_false, not_or]; omega) o1391)
  have o1394 := (f1352 282 _ (by simp only [List.mem_cons, List.not_mem_nil, or_false, not_or]; omega) o1393)
  refine y_callVR (M := (M_law nm)) (M' := M_X12_drop) rfl rfl dL_law_801 m_X12_drop t_3098 t_3099 t_3100 (q1388 hl c0 c1 o1390 o1392 o1394) rfl rfl o1390 rfl (Nat.le_of_ble_eq_true rfl) (Nat.le_of_ble_eq_true rfl) (Nat.le_of_ble_eq_true rfl) (Nat.le_of_ble_eq_true rfl) (fun h1395 f1396 w1397 => ?_)
  obtain ⟨o1398, o1399, o1400, -⟩ := w1397
  refine x_istore (M := (M_law nm)) dL_law_804 (Nat.le_of_ble_eq_true rfl) rfl ?_
  refine x_aload_n (M := (M_law nm)) dL_law_806 rfl ?_
  refine x_callVR (M := (M_law nm)) (M' := M_X12_thrown) rfl rfl dL_law_807 m_X12_thrown t_2797 t_2798 t_2799 (q254 hl o1398) rfl rfl o1398 rfl (Nat.le_of_ble_eq_true rfl) (Nat.le_of_ble_eq_true rfl) (Nat.le_of_ble_eq_true rfl) (Nat.le_of_ble_eq_true rfl) ?_
  refine x_iload (M := (M_law nm)) dL_law_810 rfl ?_
  refine x_icmp_eq (M := (M_law nm)) (tgt := 817) dL_law_812 (by decide) (fun _ => ?_) (fun q => absurd q (by decide +kernel))
  refine x_iload (M := (M_law nm)) dL_law_817 rfl ?_
  refine x_if_ne (M := (M_law nm)) (tgt := 841) dL_law_819 (by decide) (fun q => absurd q (by decide +kernel)) (fun _ => ?_)
  refine x_aload_n (M := (M_law nm)) dL_law_822 rfl ?_
  refine x_iconst (M := (M_law nm)) dL_law_823 ?_
  have o1401 := (f1396 359 _ (by decide) o1354)
  refine x_lald (M := (M_law nm)) dL_law_824 o1401 (vp_inD (by decide +kernel)) ?_
  refine x_topl (M := (M_law nm)) (y := (Int64.ofInt 0)) (by decide +kernel) ?_
  refine x_iload (M := (M_law nm)) dL_law_825 rfl ?_
  refine x_if_eq (M := (M_law nm)) (tgt := 834) dL_law_827 (by decide) (fun _ => ?_) (fun q => absurd q (by decide +kernel))
  refine x_lconst (M := (M_law nm)) dL_law_834 ?_
  refine x_lcmp (M := (M_law nm)) dL_law_835 ?_
  refine x_if_eq (M := (M_law nm)) (tgt := 841) dL_law_836 (by decide) (fun _ => ?_) (fun q => absurd q (by decide +kernel))
  refine x_goto (M := (M_law nm)) (tgt := 2449) dL_law_841 (by decide) ?_
  refine x_iinc (M := (M_law nm)) dL_law_2449 rfl (Nat.le_of_ble_eq_true rfl) rfl ?_
  refine x_lvs (M := (M_law nm)) (lv' := [some (.ref 0), some (.ref 32), some (.ref 277), some (.ref 359), some (.int (Int32.ofInt 7)), some (.int (Int32.ofInt 0)), some (.int (Int32.ofInt 0)), none]) (by rw [(by decide +kernel : (Int32.ofInt 1) + Int32.ofInt 6 = (Int32.ofInt 7))] <;> rfl) ?_
  refine x_goto (M := (M_law nm)) (tgt := 33) dL_law_2452 (by decide) ?_
  refine x_iload (M := (M_law nm)) dL_law_33 rfl ?_
  refine x_aload_n (M := (M_law nm)) dL_law_35 rfl ?_
  refine x_slen (M := (M_law nm)) dL_law_36 (by decide) hx ?_
  refine x_bipush (M := (M_law nm)) dL_law_37 ?_
  refine x_isub (M := (M_law nm)) dL_law_39 ?_
  refine x_icmp_gt (M := (M_law nm)) (tgt := 2455) dL_law_40 (by decide) (fun _ => ?_) (fun q => absurd q (by decide +kernel))
  refine x_iconst (M := (M_law nm)) dL_law_2455 ?_
  exact x_zret (M := (M_law nm)) dL_law_2456 rfl (by decide) rfl (Nat.le_of_ble_eq_true rfl) (Nat.le_of_ble_eq_true rfl)
set_option maxRecDepth 10000 in
theorem q1406 {l : Launch} {E : EE} (hl : l.stackTraces = false) {h : HP} {a0 : Int32} (c0 : ¬ (a0.toInt < 0)) (c1 : ¬ (a0.toInt < 32)) (o1402 : ob h 32 = some (.inr (14, [.ref 33, .ref 162, .ref 166, .int (0 : Int32), .int (0 : Int32), .int (0 : Int32), .ref 167, .ref 170, .ref 173, .ref 177, .ref 193, .ref 208, .ref 222, .ref 238, .ref 252, .ref 274, .ref 275, .ref 276, .int (0 : Int32)]))) : en_C l E M_X11_drop 7 1 6 [.ref 32, .int a0] h (pT "java/lang/IndexOutOfBoundsException" [] h (fun _ => True)) := by
  refine en_mk m_X11_drop rfl hl (Nat.le_of_ble_eq_true rfl) ?_
  refine x_aload_n (M := M_X11_drop) dX11_drop_0 rfl ?_
  refine x_iload_n (M := M_X11_drop) dX11_drop_1 rfl ?_
  exact y_callVX (M := M_X11_drop) (M' := M_X11_slotNumbered) rfl rfl dX11_drop_2 m_X11_slotNumbered t_744 t_746 s_2 (q511 hl c0 c1) rfl rfl o1402 rfl (Nat.le_of_ble_eq_true rfl) (Nat.le_of_ble_eq_true rfl) (Nat.le_of_ble_eq_true rfl) (Nat.le_of_ble_eq_true rfl) (fun h1403 f1404 w1405 => ⟨rfl, (fr_tr f1404 (fun _ h => nomatch h) fr_rf), trivial⟩)
set_option maxRecDepth 10000 in
theorem q1411 {l : Launch} {E : EE} (hl : l.stackTraces = false) {h : HP} {a0 : Int32} (c0 : ¬ (a0.toInt < 0)) (c1 : ¬ (a0.toInt < 32)) (o1407 : ob h 32 = some (.inr (14, [.ref 33, .ref 162, .ref 166, .int (0 : Int32), .int (0 : Int32), .int (0 : Int32), .ref 167, .ref 170, .ref 173, .ref 177, .ref 193, .ref 208, .ref 222, .ref 238, .ref 252, .ref 274, .ref 275, .ref 276, .int (0 : Int32)]))) : en_C l E M_L_drop 8 1 6 [.ref 32, .int a0, .ref 359] h (pF (some (.int (Int32.ofInt 1))) [] h (fun _ => True)) := by
  refine en_mkW m_L_drop rfl hl (Nat.le_of_ble_eq_true rfl) ?_
  refine x_aload_n (M := M_L_drop) dL_drop_0 rfl ?_
  refine x_iconst (M := M_L_drop) dL_drop_1 ?_
  refine x_aload_n (M := M_L_drop) dL_drop_2 rfl ?_
  refine x_iload_n (M := M_L_drop) dL_drop_3 rfl ?_
  refine y_callVHX (M := M_L_drop) (M' := M_X11_drop) (i9 := 3) (nx := 20) rfl dL_drop_4 m_X11_drop t_1158 t_1159 t_1160 o1407 rfl (q1406 hl c0 c1 o1407) rfl rfl (Nat.le_of_ble_eq_true rfl) (Nat.le_of_ble_eq_true rfl) (Nat.le_of_ble_eq_true rfl) (Nat.le_of_ble_eq_true rfl) (en_hdn (k0 := 3) [] [] rfl (fun _ h => nomatch h) (by decide +kernel) (by decide) t_739 n_750 dL_drop_19) (by decide) rfl (fun h1408 f1409 w1410 => ?_)
  refine x_iconst (M := M_L_drop) dL_drop_20 ?_
  exact x_iret (M := M_L_drop) dL_drop_21 rfl ⟨rfl, (fr_tr f1409 (fun _ h => nomatch h) fr_rf), trivial⟩ (Nat.le_of_ble_eq_true rfl) (Nat.le_of_ble_eq_true rfl)
set_option maxRecDepth 10000 in
theorem q1424 {l : Launch} {E : EE} (hl : l.stackTraces = false) {h : HP} {a0 : Int32} {dg : Int32} (c0 : ¬ (a0.toInt < 0)) (c1 : ¬ (a0.toInt < 32)) (o1416 : ob h 277 = some (.inr (15, (RB dg)))) : en_C l E M_X12_drop 1 0 0 [.ref 277, .int a0] h (pF (some (.int (Int32.ofInt 0))) [277] h (fun h' => ob h' 277 = some (.inr (15, ((RB dg).set 0 (.int (Int32.ofInt 1))))) ∧ True)) := by
  refine en_mk m_X12_drop rfl hl (Nat.le_of_ble_eq_true rfl) ?_
  refine x_aload_n (M := M_X12_drop) dX12_drop_0 rfl ?_
  refine x_iconst (M := M_X12_drop) dX12_drop_1 ?_
  refine y_put (M := M_X12_drop) (ci := 15) (C := RX12) (T := TX12) (N := 135) (ty := tyX12) cl15 dX12_drop_2 o1416 0 (by decide) t_2391 (Or.inl rfl) (Nat.le_of_ble_eq_true rfl) rfl (fun h1417 w1418 f1419 => ?_)
  refine x_aload_n (M := M_X12_drop) dX12_drop_5 rfl ?_
  refine x_iload_n (M := M_X12_drop) dX12_drop_6 rfl ?_
  refine x_callSR (M := M_X12_drop) (M' := M_X12_isSlot) rfl rfl dX12_drop_7 m_X12_isSlot t_2841 t_2842 (q530 hl c0 c1) rfl rfl (Nat.le_of_ble_eq_true rfl) (Nat.le_of_ble_eq_true rfl) (Nat.le_of_ble_eq_true rfl) (Nat.le_of_ble_eq_true rfl) ?_
  refine x_if_ne (M := M_X12_drop) (tgt := 17) dX12_drop_10 (by decide) (fun q => absurd q (by decide +kernel)) (fun _ => ?_)
  refine x_iconst (M := M_X12_drop) dX12_drop_13 ?_
  refine x_goto (M := M_X12_drop) (tgt := 18) dX12_drop_14 (by decide) ?_
  refine x_iconst (M := M_X12_drop) dX12_drop_18 ?_
  refine y_callVR (M := M_X12_drop) (M' := M_X12_fails) rfl rfl dX12_drop_19 m_X12_fails t_2805 t_2807 s_157 (q22 hl w1418) rfl rfl w1418 rfl (Nat.le_of_ble_eq_true rfl) (Nat.le_of_ble_eq_true rfl) (Nat.le_of_ble_eq_true rfl) (Nat.le_of_ble_eq_true rfl) (fun h1420 f1421 w1422 => ?_)
  obtain ⟨o1423, -⟩ := w1422
  refine x_if_eq (M := M_X12_drop) (tgt := 27) dX12_drop_22 (by decide) (fun q => absurd q (by decide +kernel)) (fun _ => ?_)
  refine x_iconst (M := M_X12_drop) dX12_drop_25 ?_
  exact x_zret (M := M_X12_drop) dX12_drop_26 rfl (by decide) ⟨rfl, (fr_tr f1421 (by decide) (fr_tr f1419 (by decide) fr_rf)), ⟨o1423, trivial⟩⟩ (Nat.le_of_ble_eq_true rfl) (Nat.le_of_ble_eq_true rfl)
set_option maxRecDepth 10000 in
theorem lc10_2 {l : Launch} {E : EE} (hl : l.stackTraces = false) (nm : String) {xs : Nat → Int32} (hx : E.2.2.2.2 0 = some (7, xs)) {h : HP} {a0 : Int32} {dg : Int32} (e2 : xs 2 = a0) (c0 : ¬ (a0.toInt < 0)) (c1 : ¬ (a0.toInt < 32)) (o1412 : ob h 32 = some (.inr (14, [.ref 33, .ref 162, .ref 166, .int (0 : Int32), .int (0 : Int32), .int (0 : Int32), .ref 167, .ref 170, .ref 173, .ref 177, .ref 193, .ref 208, .ref 222, .ref 238, .ref 252, .ref 274, .ref 275, .ref 276, .int (0 : Int32)]))) (o1425 : ob h 277 = some (.inr (15, (RB dg)))) : XX l E (M_law nm) 1312 342628 8074320 (fun o _ => o = .inl (some (.int 1))) 781 [some (.ref 0), some (.ref 32), some (.ref 277), some (.ref 359), some (.int (Int32.ofInt 1)), none, none, none] [] h 328 2463747 := by
  refine x_aload_n (M := (M_law nm)) dL_law_781 rfl ?_
  refine x_aload_n (M := (M_law nm)) dL_law_782 rfl ?_
  refine x_iload (M := (M_law nm)) dL_law_783 rfl ?_
  refine x_iconst (M := (M_law nm)) dL_law_785 ?_
  refine x_iadd (M := (M_law nm)) dL_law_786 ?_
  refine x_sald (M := (M_law nm)) dL_law_787 (by decide) hx (vp_inD (by decide +kernel)) ?_
  refine x_top (M := (M_law nm)) (y := a0) ((congrArg xs (by decide +kernel : ((Int32.ofInt 1) + (Int32.ofInt 1)).toNatClampNeg = 2)).trans e2) ?_
  refine x_aload_n (M := (M_law nm)) dL_law_788 rfl ?_
  refine y_callSW (M := (M_law nm)) (M' := M_L_drop) rfl rfl dL_law_789 m_L_drop t_1155 t_1156 (q1411 hl c0 c1 o1412) rfl rfl (Nat.le_of_ble_eq_true rfl) (Nat.le_of_ble_eq_true rfl) (Nat.le_of_ble_eq_true rfl) (Nat.le_of_ble_eq_true rfl) (fun h1413 f1414 w1415 => ?_)
  refine x_istore (M := (M_law nm)) dL_law_792 (Nat.le_of_ble_eq_true rfl) rfl ?_
  refine x_aload_n (M := (M_law nm)) dL_law_794 rfl ?_
  refine x_aload_n (M := (M_law nm)) dL_law_795 rfl ?_
  refine x_iload (M := (M_law nm)) dL_law_796 rfl ?_
  refine x_iconst (M := (M_law nm)) dL_law_798 ?_
  refine x_iadd (M := (M_law nm)) dL_law_799 ?_
  refine x_sald (M := (M_law nm)) dL_law_800 (by decide) hx (vp_inD (by decide +kernel)) ?_
  refine x_top (M := (M_law nm)) (y := a0) ((congrArg xs (by decide +kernel : ((Int32.ofInt 1) + (Int32.ofInt 1)).toNatClampNeg = 2)).trans e2) ?_
  have o1426 := (f1414 277 _ (by decide) o1425)
  refine y_callVR (M := (M_law nm)) (M' := M_X12_drop) rfl rfl dL_law_801 m_X12_drop t_3098 t_3099 t_3100 (q1424 hl c0 c1 o1426) rfl rfl o1426 rfl (Nat.le_of_ble_eq_true rfl) (Nat.le_of_ble_eq_true rfl) (Nat.le_of_ble_eq_true rfl) (Nat.le_of_ble_eq_true rfl) (fun h1427 f1428 w1429 => ?_)
  obtain ⟨o1430, -⟩ := w1429
  refine x_istore (M := (M_law nm)) dL_law_804 (Nat.le_of_ble_eq_true rfl) rfl ?_
  refine x_aload_n (M := (M_law nm)) dL_law_806 rfl ?_
  refine x_callVR (M := (M_law nm)) (M' := M_X12_thrown) rfl rfl dL_law_807 m_X12_thrown t_2797 t_2798 t_2799 (q35 hl o1430) rfl rfl o1430 rfl (Nat.le_of_ble_eq_true rfl) (Nat.le_of_ble_eq_true rfl) (Nat.le_of_ble_eq_true rfl) (Nat.le_of_ble_eq_true rfl) ?_
  refine x_iload (M := (M_law nm)) dL_law_810 rfl ?_
  refine x_icmp_eq (M := (M_law nm)) (tgt := 817) dL_law_812 (by decide) (fun _ => ?_) (fun q => absurd q (by decide +kernel))
  refine x_iload (M := (M_law nm)) dL_law_817 rfl ?_
  refine x_if_ne (M := (M_law nm)) (tgt := 841) dL_law_819 (by decide) (fun _ => ?_) (fun q => absurd q (by decide +kernel))
  refine x_goto (M := (M_law nm)) (tgt := 2449) dL_law_841 (by decide) ?_
  refine x_iinc (M := (M_law nm)) dL_law_2449 rfl (Nat.le_of_ble_eq_true rfl) rfl ?_
  refine x_lvs (M := (M_law nm)) (lv' := [some (.ref 0), some (.ref 32), some (.ref 277), some (.ref 359), some (.int (Int32.ofInt 7)), some (.int (Int32.ofInt 1)), some (.int (Int32.ofInt 0)), none]) (by rw [(by decide +kernel : (Int32.ofInt 1) + Int32.ofInt 6 = (Int32.ofInt 7))] <;> rfl) ?_
  refine x_goto (M := (M_law nm)) (tgt := 33) dL_law_2452 (by decide) ?_
  refine x_iload (M := (M_law nm)) dL_law_33 rfl ?_
  refine x_aload_n (M := (M_law nm)) dL_law_35 rfl ?_
  refine x_slen (M := (M_law nm)) dL_law_36 (by decide) hx ?_
  refine x_bipush (M := (M_law nm)) dL_law_37 ?_
  refine x_isub (M := (M_law nm)) dL_law_39 ?_
  refine x_icmp_gt (M := (M_law nm)) (tgt := 2455) dL_law_40 (by decide) (fun _ => ?_) (fun q => absurd q (by decide +kernel))
  refine x_iconst (M := (M_law nm)) dL_law_2455 ?_
  exact x_zret (M := (M_law nm)) dL_law_2456 rfl (by decide) rfl (Nat.le_of_ble_eq_true rfl) (Nat.le_of_ble_eq_true rfl)
theorem lop10 {l : Launch} {E : EE} (hl : l.stackTraces = false) (nm : String) {xs : Nat → Int32} (hx : E.2.2.2.2 0 = some (7, xs)) (dg : Int32) : XX l E (M_law nm) 1312 342628 8074320 (fun o _ => o = .inl (some (.int 1))) 781 [some (.ref 0), some (.ref 32), some (.ref 277), some (.ref 359), some (.int (Int32.ofInt 1)), none, none, none] [] (HH dg) 328 2463747 := by
  obtain ⟨a0, e2⟩ : ∃ a : Int32, xs 2 = a := ⟨_, rfl⟩
  obtain ⟨a1, e3⟩ : ∃ a : Int32, xs 3 = a := ⟨_, rfl⟩
  obtain ⟨a2, e4⟩ : ∃ a : Int32, xs 4 = a := ⟨_, rfl⟩
  obtain ⟨a3, e5⟩ : ∃ a : Int32, xs 5 = a := ⟨_, rfl⟩
  obtain ⟨a4, e6⟩ : ∃ a : Int32, xs 6 = a := ⟨_, rfl⟩
  by_cases c0 : a0.toInt < 0
  · exact lc10_0 hl nm hx e2 c0 (o_32 dg) (o_277b dg)
  · by_cases c1 : a0.toInt < 32
    · have n_a0 : a0.toNatClampNeg < 32 := nc_lt (by omega) (by decide)
      exact lc10_1 hl nm hx e2 c0 c1 (o_32 dg) (o_33 dg) (o_sh dg a0.toNatClampNeg n_a0) (o_359 dg) (o_277b dg) (oMR (dg := dg) (k := 2) rfl) (oMR (dg := dg) (k := 4) rfl)
    · exact lc10_2 hl nm hx e2 c0 c1 (o_32 dg) (o_277b dg)
set_option maxRecDepth 10000 in
theorem q1435 {l : Launch} {E : EE} (hl : l.stackTraces = false) {h : HP} {a0 : Int32} {a1 : Int32} (c0 : a0.toInt < 0) (o1431 : ob h 32 = some (.inr (14, [.ref 33, .ref 162, .ref 166, .int (0 : Int32), .int (0 : Int32), .int (0 : Int32), .ref 167, .ref 170, .ref 173, .ref 177, .ref 193, .ref 208, .ref 222, .ref 238, .ref 252, .ref 274, .ref 275, .ref 276, .int (0 : Int32)]))) : en_C l E M_X11_same 7 1 6 [.ref 32, .int a0, .int a1] h (pT "java/lang/IndexOutOfBoundsException" [] h (fun _ => True)) := by
  refine en_mk m_X11_same rfl hl (Nat.le_of_ble_eq_true rfl) ?_
  refine x_aload_n (M := M_X11_same) dX11_same_0 rfl ?_
  refine x_iload_n (M := M_X11_same) dX11_same_1 rfl ?_
  exact y_callVX (M := M_X11_same) (M' := M_X11_slotNumbered) rfl rfl dX11_same_2 m_X11_slotNumbered t_744 t_746 s_2 (q392 hl c0) rfl rfl o1431 rfl (Nat.le_of_ble_eq_true rfl) (Nat.le_of_ble_eq_true rfl) (Nat.le_of_ble_eq_true rfl) (Nat.le_of_ble_eq_true rfl) (fun h1432 f1433 w1434 => ⟨rfl, (fr_tr f1433 (fun _ h => nomatch h) fr_rf), trivial⟩)
set_option maxRecDepth 10000 in
theorem q1440 {l : Launch} {E : EE} (hl : l.stackTraces = false) {h : HP} {a0 : Int32} {a1 : Int32} (c0 : a0.toInt < 0) (o1436 : ob h 32 = some (.inr (14, [.ref 33, .ref 162, .ref 166, .int (0 : Int32), .int (0 : Int32), .int (0 : Int32), .ref 167, .ref 170, .ref 173, .ref 177, .ref 193, .ref 208, .ref 222, .ref 238, .ref 252, .ref 274, .ref 275, .ref 276, .int (0 : Int32)]))) : en_C l E M_L_same 8 1 6 [.ref 32, .int a0, .int a1, .ref 359] h (pF (some (.int (Int32.ofInt 1))) [] h (fun _ => True)) := by
  refine en_mkW m_L_same rfl hl (Nat.le_of_ble_eq_true rfl) ?_
  refine x_aload_n (M := M_L_same) dL_same_0 rfl ?_
  refine x_iconst (M := M_L_same) dL_same_1 ?_
  refine x_aload_n (M := M_L_same) dL_same_2 rfl ?_
  refine x_iload_n (M := M_L_same) dL_same_3 rfl ?_
  refine x_iload_n (M := M_L_same) dL_same_4 rfl ?_
  refine y_callVHX (M := M_L_same) (M' := M_X11_same) (i9 := 4) (nx := 22) rfl dL_same_5 m_X11_same t_1165 t_1166 t_1167 o1436 rfl (q1435 hl c0 o1436) rfl rfl (Nat.le_of_ble_eq_true rfl) (Nat.le_of_ble_eq_true rfl) (Nat.le_of_ble_eq_true rfl) (Nat.le_of_ble_eq_true rfl) (en_hdm (k0 := 4) [] [] rfl (fun _ h => nomatch h) (by decide +kernel) (by decide) t_739 n_750 dL_same_20) (by decide) rfl (fun h1437 f1438 w1439 => ?_)
  refine x_iconst (M := M_L_same) dL_same_22 ?_
  exact x_iret (M := M_L_same) dL_same_23 rfl ⟨rfl, (fr_tr f1438 (fun _ h => nomatch h) fr_rf), trivial⟩ (Nat.le_of_ble_eq_true rfl) (Nat.le_of_ble_eq_true rfl)
set_option maxRecDepth 10000 in
theorem q1453 {l : Launch} {E : EE} (hl : l.stackTraces = false) {h : HP} {a0 : Int32} {a1 : Int32} {dg : Int32} (c0 : a0.toInt < 0) (o1445 : ob h 277 = some (.inr (15, (RB dg)))) : en_C l E M_X12_same 1 0 0 [.ref 277, .int a0, .int a1] h (pF (some (.int (Int32.ofInt 0))) [277] h (fun h' => ob h' 277 = some (.inr (15, ((RB dg).set 0 (.int (Int32.ofInt 1))))) ∧ True)) := by
  refine en_mk m_X12_same rfl hl (Nat.le_of_ble_eq_true rfl) ?_
  refine x_aload_n (M := M_X12_same) dX12_same_0 rfl ?_
  refine x_iconst (M := M_X12_same) dX12_same_1 ?_
  refine y_put (M := M_X12_same) (ci := 15) (C := RX12) (T := TX12) (N := 135) (ty := tyX12) cl15 dX12_same_2 o1445 0 (by decide) t_2391 (Or.inl rfl) (Nat.le_of_ble_eq_true rfl) rfl (fun h1446 w1447 f1448 => ?_)
  refine x_aload_n (M := M_X12_same) dX12_same_5 rfl ?_
  refine x_iload_n (M := M_X12_same) dX12_same_6 rfl ?_
  refine x_callSR (M := M_X12_same) (M' := M_X12_isSlot) rfl rfl dX12_same_7 m_X12_isSlot t_2841 t_2842 (q411 hl c0) rfl rfl (Nat.le_of_ble_eq_true rfl) (Nat.le_of_ble_eq_true rfl) (Nat.le_of_ble_eq_true rfl) (Nat.le_of_ble_eq_true rfl) ?_
  refine x_if_eq (M := M_X12_same) (tgt := 20) dX12_same_10 (by decide) (fun _ => ?_) (fun q => absurd q (by decide +kernel))
  refine x_iconst (M := M_X12_same) dX12_same_20 ?_
  refine x_goto (M := M_X12_same) (tgt := 25) dX12_same_21 (by decide) ?_
  refine x_iconst (M := M_X12_same) dX12_same_25 ?_
  refine y_callVR (M := M_X12_same) (M' := M_X12_fails) rfl rfl dX12_same_26 m_X12_fails t_2805 t_2807 s_157 (q22 hl w1447) rfl rfl w1447 rfl (Nat.le_of_ble_eq_true rfl) (Nat.le_of_ble_eq_true rfl) (Nat.le_of_ble_eq_true rfl) (Nat.le_of_ble_eq_true rfl) (fun h1449 f1450 w1451 => ?_)
  obtain ⟨o1452, -⟩ := w1451
  refine x_if_eq (M := M_X12_same) (tgt := 34) dX12_same_29 (by decide) (fun q => absurd q (by decide +kernel)) (fun _ => ?_)
  refine x_iconst (M := M_X12_same) dX12_same_32 ?_
  exact x_zret (M := M_X12_same) dX12_same_33 rfl (by decide) ⟨rfl, (fr_tr f1450 (by decide) (fr_tr f1448 (by decide) fr_rf)), ⟨o1452, trivial⟩⟩ (Nat.le_of_ble_eq_true rfl) (Nat.le_of_ble_eq_true rfl)
set_option maxRecDepth 10000 in
theorem lc11_0 {l : Launch} {E : EE} (hl : l.stackTraces = false) (nm : String) {xs : Nat → Int32} (hx : E.2.2.2.2 0 = some (7, xs)) {h : HP} {a0 : Int32} {a1 : Int32} {dg : Int32} (e2 : xs 2 = a0) (e3 : xs 3 = a1) (c0 : a0.toInt < 0) (o1441 : ob h 32 = some (.inr (14, [.ref 33, .ref 162, .ref 166, .int (0 : Int32), .int (0 : Int32), .int (0 : Int32), .ref 167, .ref 170, .ref 173, .ref 177, .ref 193, .ref 208, .ref 222, .ref 238, .ref 252, .ref 274, .ref 275, .ref 276, .int (0 : Int32)]))) (o1454 : ob h 277 = some (.inr (15, (RB dg)))) : XX l E (M_law nm) 1312 342628 8074320 (fun o _ => o = .inl (some (.int 1))) 844 [some (.ref 0), some (.ref 32), some (.ref 277), some (.ref 359), some (.int (Int32.ofInt 1)), none, none, none] [] h 328 2463747 := by
  refine x_aload_n (M := (M_law nm)) dL_law_844 rfl ?_
  refine x_aload_n (M := (M_law nm)) dL_law_845 rfl ?_
  refine x_iload (M := (M_law nm)) dL_law_846 rfl ?_
  refine x_iconst (M := (M_law nm)) dL_law_848 ?_
  refine x_iadd (M := (M_law nm)) dL_law_849 ?_
  refine x_sald (M := (M_law nm)) dL_law_850 (by decide) hx (vp_inD (by decide +kernel)) ?_
  refine x_top (M := (M_law nm)) (y := a0) ((congrArg xs (by decide +kernel : ((Int32.ofInt 1) + (Int32.ofInt 1)).toNatClampNeg = 2)).trans e2) ?_
  refine x_aload_n (M := (M_law nm)) dL_law_851 rfl ?_
  refine x_iload (M := (M_law nm)) dL_law_852 rfl ?_
  refine x_iconst (M := (M_law nm)) dL_law_854 ?_
  refine x_iadd (M := (M_law nm)) dL_law_855 ?_
  refine x_sald (M := (M_law nm)) dL_law_856 (by decide) hx (vp_inD (by decide +kernel)) ?_
  refine x_top (M := (M_law nm)) (y := a1) ((congrArg xs (by decide +kernel : ((Int32.ofInt 1) + (Int32.ofInt 2)).toNatClampNeg = 3)).trans e3) ?_
  refine x_aload_n (M := (M_law nm)) dL_law_857 rfl ?_
  refine y_callSW (M := (M_law nm)) (M' := M_L_same) rfl rfl dL_law_858 m_L_same t_1162 t_1163 (q1440 hl c0 o1441) rfl rfl (Nat.le_of_ble_eq_true rfl) (Nat.le_of_ble_eq_true rfl) (Nat.le_of_ble_eq_true rfl) (Nat.le_of_ble_eq_true rfl) (fun h1442 f1443 w1444 => ?_)
  refine x_istore (M := (M_law nm)) dL_law_861 (Nat.le_of_ble_eq_true rfl) rfl ?_
  refine x_aload_n (M := (M_law nm)) dL_law_863 rfl ?_
  refine x_aload_n (M := (M_law nm)) dL_law_864 rfl ?_
  refine x_iload (M := (M_law nm)) dL_law_865 rfl ?_
  refine x_iconst (M := (M_law nm)) dL_law_867 ?_
  refine x_iadd (M := (M_law nm)) dL_law_868 ?_
  refine x_sald (M := (M_law nm)) dL_law_869 (by decide) hx (vp_inD (by decide +kernel)) ?_
  refine x_top (M := (M_law nm)) (y := a0) ((congrArg xs (by decide +kernel : ((Int32.ofInt 1) + (Int32.ofInt 1)).toNatClampNeg = 2)).trans e2) ?_
  refine x_aload_n (M := (M_law nm)) dL_law_870 rfl ?_
  refine x_iload (M := (M_law nm)) dL_law_871 rfl ?_
  refine x_iconst (M := (M_law nm)) dL_law_873 ?_
  refine x_iadd (M := (M_law nm)) dL_law_874 ?_
  refine x_sald (M := (M_law nm)) dL_law_875 (by decide) hx (vp_inD (by decide +kernel)) ?_
  refine x_top (M := (M_law nm)) (y := a1) ((congrArg xs (by decide +kernel : ((Int32.ofInt 1) + (Int32.ofInt 2)).toNatClampNeg = 3)).trans e3) ?_
  have o1455 := (f1443 277 _ (by decide) o1454)
  refine y_callVR (M := (M_law nm)) (M' := M_X12_same) rfl rfl dL_law_876 m_X12_same t_3102 t_3103 t_3104 (q1453 hl c0 o1455) rfl rfl o1455 rfl (Nat.le_of_ble_eq_true rfl) (Nat.le_of_ble_eq_true rfl) (Nat.le_of_ble_eq_true rfl) (Nat.le_of_ble_eq_true rfl) (fun h1456 f1457 w1458 => ?_)
  obtain ⟨o1459, -⟩ := w1458
  refine x_istore (M := (M_law nm)) dL_law_879 (Nat.le_of_ble_eq_true rfl) rfl ?_
  refine x_aload_n (M := (M_law nm)) dL_law_881 rfl ?_
  refine x_callVR (M := (M_law nm)) (M' := M_X12_thrown) rfl rfl dL_law_882 m_X12_thrown t_2797 t_2798 t_2799 (q35 hl o1459) rfl rfl o1459 rfl (Nat.le_of_ble_eq_true rfl) (Nat.le_of_ble_eq_true rfl) (Nat.le_of_ble_eq_true rfl) (Nat.le_of_ble_eq_true rfl) ?_
  refine x_iload (M := (M_law nm)) dL_law_885 rfl ?_
  refine x_icmp_eq (M := (M_law nm)) (tgt := 892) dL_law_887 (by decide) (fun _ => ?_) (fun q => absurd q (by decide +kernel))
  refine x_iload (M := (M_law nm)) dL_law_892 rfl ?_
  refine x_if_ne (M := (M_law nm)) (tgt := 916) dL_law_894 (by decide) (fun _ => ?_) (fun q => absurd q (by decide +kernel))
  refine x_goto (M := (M_law nm)) (tgt := 2449) dL_law_916 (by decide) ?_
  refine x_iinc (M := (M_law nm)) dL_law_2449 rfl (Nat.le_of_ble_eq_true rfl) rfl ?_
  refine x_lvs (M := (M_law nm)) (lv' := [some (.ref 0), some (.ref 32), some (.ref 277), some (.ref 359), some (.int (Int32.ofInt 7)), some (.int (Int32.ofInt 1)), some (.int (Int32.ofInt 0)), none]) (by rw [(by decide +kernel : (Int32.ofInt 1) + Int32.ofInt 6 = (Int32.ofInt 7))] <;> rfl) ?_
  refine x_goto (M := (M_law nm)) (tgt := 33) dL_law_2452 (by decide) ?_
  refine x_iload (M := (M_law nm)) dL_law_33 rfl ?_
  refine x_aload_n (M := (M_law nm)) dL_law_35 rfl ?_
  refine x_slen (M := (M_law nm)) dL_law_36 (by decide) hx ?_
  refine x_bipush (M := (M_law nm)) dL_law_37 ?_
  refine x_isub (M := (M_law nm)) dL_law_39 ?_
  refine x_icmp_gt (M := (M_law nm)) (tgt := 2455) dL_law_40 (by decide) (fun _ => ?_) (fun q => absurd q (by decide +kernel))
  refine x_iconst (M := (M_law nm)) dL_law_2455 ?_
  exact x_zret (M := (M_law nm)) dL_law_2456 rfl (by decide) rfl (Nat.le_of_ble_eq_true rfl) (Nat.le_of_ble_eq_true rfl)
set_option maxRecDepth 10000 in
theorem q1465 {l : Launch} {E : EE} (hl : l.stackTraces = false) {h : HP} {a1 : Int32} (c0 : a1.toInt < 0) : en_C l E M_X11_slotNumbered 6 1 6 [.ref 32, .int a1] h (pT "java/lang/IndexOutOfBoundsException" [] h (fun _ => True)) := by
  refine en_mk m_X11_slotNumbered rfl hl (Nat.le_of_ble_eq_true rfl) ?_
  refine x_iload_n (M := M_X11_slotNumbered) dX11_slotNumbered_0 rfl ?_
  refine x_if_lt (M := M_X11_slotNumbered) (tgt := 10) dX11_slotNumbered_1 (by decide) (fun _ => ?_) (fun q => absurd ((bi_lt rfl (by decide +kernel)).mpr (by omega : (a1.toInt < 0 : Prop))) q)
  exact x_throw (M := M_X11_slotNumbered) (names := en_nm) rfl dX11_slotNumbered_10 dX11_slotNumbered_13 dX11_slotNumbered_14 dX11_slotNumbered_17 (by decide +kernel) en_nm_ok (Or.inl t_748) (Or.inl t_22) (at_X11_IndexOutOfBoundsException_139) (Nat.le_of_ble_eq_true rfl) (Nat.le_of_ble_eq_true rfl) (Nat.le_of_ble_eq_true rfl) (Nat.le_of_ble_eq_true rfl) (fun n9 => ⟨rfl, (fr_tr (fr_app (List.replicate n9 none)) (fun _ h => nomatch h) fr_rf), trivial⟩)
set_option maxRecDepth 10000 in
theorem q1469 {l : Launch} {E : EE} (hl : l.stackTraces = false) {h : HP} {a0 : Int32} {a1 : Int32} (c0 : ¬ (a0.toInt < 0)) (c1 : a0.toInt < 32) (c2 : a1.toInt < 0) (o1462 : ob h 32 = some (.inr (14, [.ref 33, .ref 162, .ref 166, .int (0 : Int32), .int (0 : Int32), .int (0 : Int32), .ref 167, .ref 170, .ref 173, .ref 177, .ref 193, .ref 208, .ref 222, .ref 238, .ref 252, .ref 274, .ref 275, .ref 276, .int (0 : Int32)]))) (o1463 : ob h 33 = some (.inl (4, 32, .inr (.inr (.inr (.inr (shf 1 32))))))) : en_C l E M_X11_same 7 1 6 [.ref 32, .int a0, .int a1] h (pT "java/lang/IndexOutOfBoundsException" [] h (fun _ => True)) := by
  refine en_mk m_X11_same rfl hl (Nat.le_of_ble_eq_true rfl) ?_
  refine x_aload_n (M := M_X11_same) dX11_same_0 rfl ?_
  refine x_iload_n (M := M_X11_same) dX11_same_1 rfl ?_
  refine x_callVR (M := M_X11_same) (M' := M_X11_slotNumbered) rfl rfl dX11_same_2 m_X11_slotNumbered t_744 t_746 s_2 (q425 hl c0 c1 o1462 o1463) rfl rfl o1462 rfl (Nat.le_of_ble_eq_true rfl) (Nat.le_of_ble_eq_true rfl) (Nat.le_of_ble_eq_true rfl) (Nat.le_of_ble_eq_true rfl) ?_
  refine x_astore_n (M := M_X11_same) dX11_same_5 (Nat.le_of_ble_eq_true rfl) rfl ?_
  refine x_aload_n (M := M_X11_same) dX11_same_6 rfl ?_
  refine x_iload_n (M := M_X11_same) dX11_same_7 rfl ?_
  exact y_callVX (M := M_X11_same) (M' := M_X11_slotNumbered) rfl rfl dX11_same_8 m_X11_slotNumbered t_744 t_746 s_2 (q1465 hl c2) rfl rfl o1462 rfl (Nat.le_of_ble_eq_true rfl) (Nat.le_of_ble_eq_true rfl) (Nat.le_of_ble_eq_true rfl) (Nat.le_of_ble_eq_true rfl) (fun h1466 f1467 w1468 => ⟨rfl, (fr_tr f1467 (fun _ h => nomatch h) fr_rf), trivial⟩)
set_option maxRecDepth 10000 in
theorem q1475 {l : Launch} {E : EE} (hl : l.stackTraces = false) {h : HP} {a0 : Int32} {a1 : Int32} (c0 : ¬ (a0.toInt < 0)) (c1 : a0.toInt < 32) (c2 : a1.toInt < 0) (o1470 : ob h 32 = some (.inr (14, [.ref 33, .ref 162, .ref 166, .int (0 : Int32), .int (0 : Int32), .int (0 : Int32), .ref 167, .ref 170, .ref 173, .ref 177, .ref 193, .ref 208, .ref 222, .ref 238, .ref 252, .ref 274, .ref 275, .ref 276, .int (0 : Int32)]))) (o1471 : ob h 33 = some (.inl (4, 32, .inr (.inr (.inr (.inr (shf 1 32))))))) : en_C l E M_L_same 8 1 6 [.ref 32, .int a0, .int a1, .ref 359] h (pF (some (.int (Int32.ofInt 1))) [] h (fun _ => True)) := by
  refine en_mkW m_L_same rfl hl (Nat.le_of_ble_eq_true rfl) ?_
  refine x_aload_n (M := M_L_same) dL_same_0 rfl ?_
  refine x_iconst (M := M_L_same) dL_same_1 ?_
  refine x_aload_n (M := M_L_same) dL_same_2 rfl ?_
  refine x_iload_n (M := M_L_same) dL_same_3 rfl ?_
  refine x_iload_n (M := M_L_same) dL_same_4 rfl ?_
  refine y_callVHX (M := M_L_same) (M' := M_X11_same) (i9 := 4) (nx := 22) rfl dL_same_5 m_X11_same t_1165 t_1166 t_1167 o1470 rfl (q1469 hl c0 c1 c2 o1470 o1471) rfl rfl (Nat.le_of_ble_eq_true rfl) (Nat.le_of_ble_eq_true rfl) (Nat.le_of_ble_eq_true rfl) (Nat.le_of_ble_eq_true rfl) (en_hdm (k0 := 4) [] [] rfl (fun _ h => nomatch h) (by decide +kernel) (by decide) t_739 n_750 dL_same_20) (by decide) rfl (fun h1472 f1473 w1474 => ?_)
  refine x_iconst (M := M_L_same) dL_same_22 ?_
  exact x_iret (M := M_L_same) dL_same_23 rfl ⟨rfl, (fr_tr f1473 (fun _ h => nomatch h) fr_rf), trivial⟩ (Nat.le_of_ble_eq_true rfl) (Nat.le_of_ble_eq_true rfl)
set_option maxRecDepth 10000 in
theorem q1485 {l : Launch} {E : EE} (hl : l.stackTraces = false) {h : HP} {a1 : Int32} (c0 : a1.toInt < 0) : en_C l E M_X12_isSlot 0 0 0 [.int a1] h (pR (some (.int (Int32.ofInt 0))) h) := by
  refine en_mk m_X12_isSlot rfl hl (Nat.le_of_ble_eq_true rfl) ?_
  refine x_iload_n (M := M_X12_isSlot) dX12_isSlot_0 rfl ?_
  refine x_if_lt (M := M_X12_isSlot) (tgt := 14) dX12_isSlot_1 (by decide) (fun _ => ?_) (fun q => absurd ((bi_lt rfl (by decide +kernel)).mpr (by omega : (a1.toInt < 0 : Prop))) q)
  refine x_iconst (M := M_X12_isSlot) dX12_isSlot_14 ?_
  exact x_zret (M := M_X12_isSlot) dX12_isSlot_15 rfl (by decide) ⟨rfl, rfl⟩ (Nat.le_of_ble_eq_true rfl) (Nat.le_of_ble_eq_true rfl)
set_option maxRecDepth 10000 in
theorem q1490 {l : Launch} {E : EE} (hl : l.stackTraces = false) {h : HP} {a0 : Int32} {a1 : Int32} {dg : Int32} (c0 : ¬ (a0.toInt < 0)) (c1 : a0.toInt < 32) (c2 : a1.toInt < 0) (o1481 : ob h 277 = some (.inr (15, (RB dg)))) : en_C l E M_X12_same 1 0 0 [.ref 277, .int a0, .int a1] h (pF (some (.int (Int32.ofInt 0))) [277] h (fun h' => ob h' 277 = some (.inr (15, ((RB dg).set 0 (.int (Int32.ofInt 1))))) ∧ True)) := by
  refine en_mk m_X12_same rfl hl (Nat.le_of_ble_eq_true rfl) ?_
  refine x_aload_n (M := M_X12_same) dX12_same_0 rfl ?_
  refine x_iconst (M := M_X12_same) dX12_same_1 ?_
  refine y_put (M := M_X12_same) (ci := 15) (C := RX12) (T := TX12) (N := 135) (ty := tyX12) cl15 dX12_same_2 o1481 0 (by decide) t_2391 (Or.inl rfl) (Nat.le_of_ble_eq_true rfl) rfl (fun h1482 w1483 f1484 => ?_)
  refine x_aload_n (M := M_X12_same) dX12_same_5 rfl ?_
  refine x_iload_n (M := M_X12_same) dX12_same_6 rfl ?_
  refine x_callSR (M := M_X12_same) (M' := M_X12_isSlot) rfl rfl dX12_same_7 m_X12_isSlot t_2841 t_2842 (q447 hl c0 c1) rfl rfl (Nat.le_of_ble_eq_true rfl) (Nat.le_of_ble_eq_true rfl) (Nat.le_of_ble_eq_true rfl) (Nat.le_of_ble_eq_true rfl) ?_
  refine x_if_eq (M := M_X12_same) (tgt := 20) dX12_same_10 (by decide) (fun q => absurd q (by decide +kernel)) (fun _ => ?_)
  refine x_iload_n (M := M_X12_same) dX12_same_13 rfl ?_
  refine x_callSR (M := M_X12_same) (M' := M_X12_isSlot) rfl rfl dX12_same_14 m_X12_isSlot t_2841 t_2842 (q1485 hl c2) rfl rfl (Nat.le_of_ble_eq_true rfl) (Nat.le_of_ble_eq_true rfl) (Nat.le_of_ble_eq_true rfl) (Nat.le_of_ble_eq_true rfl) ?_
  refine x_if_ne (M := M_X12_same) (tgt := 24) dX12_same_17 (by decide) (fun q => absurd q (by decide +kernel)) (fun _ => ?_)
  refine x_iconst (M := M_X12_same) dX12_same_20 ?_
  refine x_goto (M := M_X12_same) (tgt := 25) dX12_same_21 (by decide) ?_
  refine x_iconst (M := M_X12_same) dX12_same_25 ?_
  refine y_callVR (M := M_X12_same) (M' := M_X12_fails) rfl rfl dX12_same_26 m_X12_fails t_2805 t_2807 s_157 (q22 hl w1483) rfl rfl w1483 rfl (Nat.le_of_ble_eq_true rfl) (Nat.le_of_ble_eq_true rfl) (Nat.le_of_ble_eq_true rfl) (Nat.le_of_ble_eq_true rfl) (fun h1486 f1487 w1488 => ?_)
  obtain ⟨o1489, -⟩ := w1488
  refine x_if_eq (M := M_X12_same) (tgt := 34) dX12_same_29 (by decide) (fun q => absurd q (by decide +kernel)) (fun _ => ?_)
  refine x_iconst (M := M_X12_same) dX12_same_32 ?_
  exact x_zret (M := M_X12_same) dX12_same_33 rfl (by decide) ⟨rfl, (fr_tr f1487 (by decide) (fr_tr f1484 (by decide) fr_rf)), ⟨o1489, trivial⟩⟩ (Nat.le_of_ble_eq_true rfl) (Nat.le_of_ble_eq_true rfl)
set_option maxRecDepth 10000 in
theorem lc11_1 {l : Launch} {E : EE} (hl : l.stackTraces = false) (nm : String) {xs : Nat → Int32} (hx : E.2.2.2.2 0 = some (7, xs)) {h : HP} {a0 : Int32} {a1 : Int32} {dg : Int32} (e2 : xs 2 = a0) (e3 : xs 3 = a1) (c0 : ¬ (a0.toInt < 0)) (c1 : a0.toInt < 32) (c2 : a1.toInt < 0) (o1476 : ob h 32 = some (.inr (14, [.ref 33, .ref 162, .ref 166, .int (0 : Int32), .int (0 : Int32), .int (0 : Int32), .ref 167, .ref 170, .ref 173, .ref 177, .ref 193, .ref 208, .ref 222, .ref 238, .ref 252, .ref 274, .ref 275, .ref 276, .int (0 : Int32)]))) (o1477 : ob h 33 = some (.inl (4, 32, .inr (.inr (.inr (.inr (shf 1 32))))))) (o1491 : ob h 277 = some (.inr (15, (RB dg)))) : XX l E (M_law nm) 1312 342628 8074320 (fun o _ => o = .inl (some (.int 1))) 844 [some (.ref 0), some (.ref 32), some (.ref 277), some (.ref 359), some (.int (Int32.ofInt 1)), none, none, none] [] h 328 2463747 := by
  refine x_aload_n (M := (M_law nm)) dL_law_844 rfl ?_
  refine x_aload_n (M := (M_law nm)) dL_law_845 rfl ?_
  refine x_iload (M := (M_law nm)) dL_law_846 rfl ?_
  refine x_iconst (M := (M_law nm)) dL_law_848 ?_
  refine x_iadd (M := (M_law nm)) dL_law_849 ?_
  refine x_sald (M := (M_law nm)) dL_law_850 (by decide) hx (vp_inD (by decide +kernel)) ?_
  refine x_top (M := (M_law nm)) (y := a0) ((congrArg xs (by decide +kernel : ((Int32.ofInt 1) + (Int32.ofInt 1)).toNatClampNeg = 2)).trans e2) ?_
  refine x_aload_n (M := (M_law nm)) dL_law_851 rfl ?_
  refine x_iload (M := (M_law nm)) dL_law_852 rfl ?_
  refine x_iconst (M := (M_law nm)) dL_law_854 ?_
  refine x_iadd (M := (M_law nm)) dL_law_855 ?_
  refine x_sald (M := (M_law nm)) dL_law_856 (by decide) hx (vp_inD (by decide +kernel)) ?_
  refine x_top (M := (M_law nm)) (y := a1) ((congrArg xs (by decide +kernel : ((Int32.ofInt 1) + (Int32.ofInt 2)).toNatClampNeg = 3)).trans e3) ?_
  refine x_aload_n (M := (M_law nm)) dL_law_857 rfl ?_
  refine y_callSW (M := (M_law nm)) (M' := M_L_same) rfl rfl dL_law_858 m_L_same t_1162 t_1163 (q1475 hl c0 c1 c2 o1476 o1477) rfl rfl (Nat.le_of_ble_eq_true rfl) (Nat.le_of_ble_eq_true rfl) (Nat.le_of_ble_eq_true rfl) (Nat.le_of_ble_eq_true rfl) (fun h1478 f1479 w1480 => ?_)
  refine x_istore (M := (M_law nm)) dL_law_861 (Nat.le_of_ble_eq_true rfl) rfl ?_
  refine x_aload_n (M := (M_law nm)) dL_law_863 rfl ?_
  refine x_aload_n (M := (M_law nm)) dL_law_864 rfl ?_
  refine x_iload (M := (M_law nm)) dL_law_865 rfl ?_
  refine x_iconst (M := (M_law nm)) dL_law_867 ?_
  refine x_iadd (M := (M_law nm)) dL_law_868 ?_
  refine x_sald (M := (M_law nm)) dL_law_869 (by decide) hx (vp_inD (by decide +kernel)) ?_
  refine x_top (M := (M_law nm)) (y := a0) ((congrArg xs (by decide +kernel : ((Int32.ofInt 1) + (Int32.ofInt 1)).toNatClampNeg = 2)).trans e2) ?_
  refine x_aload_n (M := (M_law nm)) dL_law_870 rfl ?_
  refine x_iload (M := (M_law nm)) dL_law_871 rfl ?_
  refine x_iconst (M := (M_law nm)) dL_law_873 ?_
  refine x_iadd (M := (M_law nm)) dL_law_874 ?_
  refine x_sald (M := (M_law nm)) dL_law_875 (by decide) hx (vp_inD (by decide +kernel)) ?_
  refine x_top (M := (M_law nm)) (y := a1) ((congrArg xs (by decide +kernel : ((Int32.ofInt 1) + (Int32.ofInt 2)).toNatClampNeg = 3)).trans e3) ?_
  have o1492 := (f1479 277 _ (by decide) o1491)
  refine y_callVR (M := (M_law nm)) (M' := M_X12_same) rfl rfl dL_law_876 m_X12_same t_3102 t_3103 t_3104 (q1490 hl c0 c1 c2 o1492) rfl rfl o1492 rfl (Nat.le_of_ble_eq_true rfl) (Nat.le_of_ble_eq_true rfl) (Nat.le_of_ble_eq_true rfl) (Nat.le_of_ble_eq_true rfl) (fun h1493 f1494 w1495 => ?_)
  obtain ⟨o1496, -⟩ := w1495
  refine x_istore (M := (M_law nm)) dL_law_879 (Nat.le_of_ble_eq_true rfl) rfl ?_
  refine x_aload_n (M := (M_law nm)) dL_law_881 rfl ?_
  refine x_callVR (M := (M_law nm)) (M' := M_X12_thrown) rfl rfl dL_law_882 m_X12_thrown t_2797 t_2798 t_2799 (q35 hl o1496) rfl rfl o1496 rfl (Nat.le_of_ble_eq_true rfl) (Nat.le_of_ble_eq_true rfl) (Nat.le_of_ble_eq_true rfl) (Nat.le_of_ble_eq_true rfl) ?_
  refine x_iload (M := (M_law nm)) dL_law_885 rfl ?_
  refine x_icmp_eq (M := (M_law nm)) (tgt := 892) dL_law_887 (by decide) (fun _ => ?_) (fun q => absurd q (by decide +kernel))
  refine x_iload (M := (M_law nm)) dL_law_892 rfl ?_
  refine x_if_ne (M := (M_law nm)) (tgt := 916) dL_law_894 (by decide) (fun _ => ?_) (fun q => absurd q (by decide +kernel))
  refine x_goto (M := (M_law nm)) (tgt := 2449) dL_law_916 (by decide) ?_
  refine x_iinc (M := (M_law nm)) dL_law_2449 rfl (Nat.le_of_ble_eq_true rfl) rfl ?_
  refine x_lvs (M := (M_law nm)) (lv' := [some (.ref 0), some (.ref 32), some (.ref 277), some (.ref 359), some (.int (Int32.ofInt 7)), some (.int (Int32.ofInt 1)), some (.int (Int32.ofInt 0)), none]) (by rw [(by decide +kernel : (Int32.ofInt 1) + Int32.ofInt 6 = (Int32.ofInt 7))] <;> rfl) ?_
  refine x_goto (M := (M_law nm)) (tgt := 33) dL_law_2452 (by decide) ?_
  refine x_iload (M := (M_law nm)) dL_law_33 rfl ?_
  refine x_aload_n (M := (M_law nm)) dL_law_35 rfl ?_
  refine x_slen (M := (M_law nm)) dL_law_36 (by decide) hx ?_
  refine x_bipush (M := (M_law nm)) dL_law_37 ?_
  refine x_isub (M := (M_law nm)) dL_law_39 ?_
  refine x_icmp_gt (M := (M_law nm)) (tgt := 2455) dL_law_40 (by decide) (fun _ => ?_) (fun q => absurd q (by decide +kernel))
  refine x_iconst (M := (M_law nm)) dL_law_2455 ?_
  exact x_zret (M := (M_law nm)) dL_law_2456 rfl (by decide) rfl (Nat.le_of_ble_eq_true rfl) (Nat.le_of_ble_eq_true rfl)
set_option maxRecDepth 10000 in
theorem q1503 {l : Launch} {E : EE} (hl : l.stackTraces = false) {h : HP} {a1 : Int32} (c0 : ¬ (a1.toInt < 0)) (c1 : a1.toInt < 32) (o1501 : ob h 32 = some (.inr (14, [.ref 33, .ref 162, .ref 166, .int (0 : Int32), .int (0 : Int32), .int (0 : Int32), .ref 167, .ref 170, .ref 173, .ref 177, .ref 193, .ref 208, .ref 222, .ref 238, .ref 252, .ref 274, .ref 275, .ref 276, .int (0 : Int32)]))) (o1502 : ob h 33 = some (.inl (4, 32, .inr (.inr (.inr (.inr (shf 1 32))))))) : en_C l E M_X11_slotNumbered 0 0 0 [.ref 32, .int a1] h (pR (some (.ref (34 + 4 * a1.toNatClampNeg))) h) := by
  have n_a1 : a1.toNatClampNeg < 32 := nc_lt (by omega) (by decide)
  refine en_mk m_X11_slotNumbered rfl hl (Nat.le_of_ble_eq_true rfl) ?_
  refine x_iload_n (M := M_X11_slotNumbered) dX11_slotNumbered_0 rfl ?_
  refine x_if_lt (M := M_X11_slotNumbered) (tgt := 10) dX11_slotNumbered_1 (by decide) (fun q => absurd ((bi_lt rfl (by decide +kernel)).mp q) (by omega : ¬ (a1.toInt < 0))) (fun _ => ?_)
  refine x_iload_n (M := M_X11_slotNumbered) dX11_slotNumbered_4 rfl ?_
  refine x_bipush (M := M_X11_slotNumbered) dX11_slotNumbered_5 ?_
  refine x_icmp_lt (M := M_X11_slotNumbered) (tgt := 18) dX11_slotNumbered_7 (by decide) (fun _ => ?_) (fun q => absurd ((bi_lt rfl (by decide +kernel)).mpr (by omega : (a1.toInt < 32 : Prop))) q)
  refine x_aload_n (M := M_X11_slotNumbered) dX11_slotNumbered_18 rfl ?_
  refine x_getf (M := M_X11_slotNumbered) (ci := 14) (C := RX11) (T := TX11) (N := 19) (ty := tyX11) cl14 dX11_slotNumbered_19 o1501 0 (by decide) t_563 (v := .ref 33) rfl ?_
  refine x_iload_n (M := M_X11_slotNumbered) dX11_slotNumbered_22 rfl ?_
  refine x_aald (M := M_X11_slotNumbered) (b := 34 + 4 * a1.toNatClampNeg) dX11_slotNumbered_23 o1502 (vp_in_s (by omega) (by omega)) (shf_at n_a1) ?_
  exact x_aret (M := M_X11_slotNumbered) dX11_slotNumbered_24 rfl ⟨rfl, rfl⟩ (Nat.le_of_ble_eq_true rfl) (Nat.le_of_ble_eq_true rfl)
set_option maxRecDepth 10000 in
theorem q1506 {l : Launch} {E : EE} (hl : l.stackTraces = false) {h : HP} {a0 : Int32} {a1 : Int32} (c0 : ¬ (a0.toInt < 0)) (c1 : a0.toInt < 32) (c2 : ¬ (a1.toInt < 0)) (c3 : a1.toInt < 32) (o1504 : ob h (34 + 4 * a0.toNatClampNeg) = some (.inr (9, [.ref (35 + 4 * a0.toNatClampNeg), .ref (36 + 4 * a0.toNatClampNeg), .ref (37 + 4 * a0.toNatClampNeg), .int (0 : Int32), .int (0 : Int32)]))) (o1505 : ob h (34 + 4 * a1.toNatClampNeg) = some (.inr (9, [.ref (35 + 4 * a1.toNatClampNeg), .ref (36 + 4 * a1.toNatClampNeg), .ref (37 + 4 * a1.toNatClampNeg), .int (0 : Int32), .int (0 : Int32)]))) : en_C l E M_X6_isLike 0 0 0 [.ref (34 + 4 * a0.toNatClampNeg), .ref (34 + 4 * a1.toNatClampNeg)] h (pR (some (.int (Int32.ofInt 1))) h) := by
  have n_a0 : a0.toNatClampNeg < 32 := nc_lt (by omega) (by decide)
  have n_a1 : a1.toNatClampNeg < 32 := nc_lt (by omega) (by decide)
  refine en_mk m_X6_isLike rfl hl (Nat.le_of_ble_eq_true rfl) ?_
  refine x_aload_n (M := M_X6_isLike) dX6_isLike_0 rfl ?_
  refine x_getf (M := M_X6_isLike) (ci := 9) (C := RX6) (T := TX6) (N := 5) (ty := tyX6) cl9 dX6_isLike_1 o1504 3 (by decide) t_72 (v := .int (0 : Int32)) rfl ?_
  refine x_aload_n (M := M_X6_isLike) dX6_isLike_4 rfl ?_
  refine x_getf (M := M_X6_isLike) (ci := 9) (C := RX6) (T := TX6) (N := 5) (ty := tyX6) cl9 dX6_isLike_5 o1505 3 (by decide) t_72 (v := .int (0 : Int32)) rfl ?_
  refine x_icmp_ne (M := M_X6_isLike) (tgt := 22) dX6_isLike_8 (by decide) (fun q => absurd q (by decide +kernel)) (fun _ => ?_)
  refine x_aload_n (M := M_X6_isLike) dX6_isLike_11 rfl ?_
  refine x_getf (M := M_X6_isLike) (ci := 9) (C := RX6) (T := TX6) (N := 5) (ty := tyX6) cl9 dX6_isLike_12 o1504 4 (by decide) t_83 (v := .int (0 : Int32)) rfl ?_
  refine x_aload_n (M := M_X6_isLike) dX6_isLike_15 rfl ?_
  refine x_getf (M := M_X6_isLike) (ci := 9) (C := RX6) (T := TX6) (N := 5) (ty := tyX6) cl9 dX6_isLike_16 o1505 4 (by decide) t_83 (v := .int (0 : Int32)) rfl ?_
  refine x_icmp_eq (M := M_X6_isLike) (tgt := 24) dX6_isLike_19 (by decide) (fun _ => ?_) (fun q => absurd q (by decide +kernel))
  refine x_iconst (M := M_X6_isLike) dX6_isLike_24 ?_
  refine x_istore_n (M := M_X6_isLike) dX6_isLike_25 (Nat.le_of_ble_eq_true rfl) rfl ?_
  refine x_iload_n (M := M_X6_isLike) dX6_isLike_26 rfl ?_
  refine x_aload_n (M := M_X6_isLike) dX6_isLike_27 rfl ?_
  refine x_getf (M := M_X6_isLike) (ci := 9) (C := RX6) (T := TX6) (N := 5) (ty := tyX6) cl9 dX6_isLike_28 o1504 3 (by decide) t_72 (v := .int (0 : Int32)) rfl ?_
  refine x_icmp_ge (M := M_X6_isLike) (tgt := 57) dX6_isLike_31 (by decide) (fun _ => ?_) (fun q => absurd q (by decide +kernel))
  refine x_iconst (M := M_X6_isLike) dX6_isLike_57 ?_
  refine x_istore_n (M := M_X6_isLike) dX6_isLike_58 (Nat.le_of_ble_eq_true rfl) rfl ?_
  refine x_iload_n (M := M_X6_isLike) dX6_isLike_59 rfl ?_
  refine x_aload_n (M := M_X6_isLike) dX6_isLike_60 rfl ?_
  refine x_getf (M := M_X6_isLike) (ci := 9) (C := RX6) (T := TX6) (N := 5) (ty := tyX6) cl9 dX6_isLike_61 o1504 4 (by decide) t_83 (v := .int (0 : Int32)) rfl ?_
  refine x_icmp_ge (M := M_X6_isLike) (tgt := 105) dX6_isLike_64 (by decide) (fun _ => ?_) (fun q => absurd q (by decide +kernel))
  refine x_iconst (M := M_X6_isLike) dX6_isLike_105 ?_
  exact x_zret (M := M_X6_isLike) dX6_isLike_106 rfl (by decide) ⟨rfl, rfl⟩ (Nat.le_of_ble_eq_true rfl) (Nat.le_of_ble_eq_true rfl)
set_option maxRecDepth 10000 in
theorem q1509 {l : Launch} {E : EE} (hl : l.stackTraces = false) {h : HP} {a0 : Int32} {a1 : Int32} (c0 : ¬ (a0.toInt < 0)) (c1 : a0.toInt < 32) (c2 : ¬ (a1.toInt < 0)) (c3 : a1.toInt < 32) (o1499 : ob h 32 = some (.inr (14, [.ref 33, .ref 162, .ref 166, .int (0 : Int32), .int (0 : Int32), .int (0 : Int32), .ref 167, .ref 170, .ref 173, .ref 177, .ref 193, .ref 208, .ref 222, .ref 238, .ref 252, .ref 274, .ref 275, .ref 276, .int (0 : Int32)]))) (o1500 : ob h 33 = some (.inl (4, 32, .inr (.inr (.inr (.inr (shf 1 32))))))) (o1507 : ob h (34 + 4 * a0.toNatClampNeg) = some (.inr (9, [.ref (35 + 4 * a0.toNatClampNeg), .ref (36 + 4 * a0.toNatClampNeg), .ref (37 + 4 * a0.toNatClampNeg), .int (0 : Int32), .int (0 : Int32)]))) (o1508 : ob h (34 + 4 * a1.toNatClampNeg) = some (.inr (9, [.ref (35 + 4 * a1.toNatClampNeg), .ref (36 + 4 * a1.toNatClampNeg), .ref (37 + 4 * a1.toNatClampNeg), .int (0 : Int32), .int (0 : Int32)]))) : en_C l E M_X11_same 1 0 0 [.ref 32, .int a0, .int a1] h (pR (some (.int (Int32.ofInt 1))) h) := by
  have n_a0 : a0.toNatClampNeg < 32 := nc_lt (by omega) (by decide)
  have n_a1 : a1.toNatClampNeg < 32 := nc_lt (by omega) (by decide)
  refine en_mk m_X11_same rfl hl (Nat.le_of_ble_eq_true rfl) ?_
  refine x_aload_n (M := M_X11_same) dX11_same_0 rfl ?_
  refine x_iload_n (M := M_X11_same) dX11_same_1 rfl ?_
  refine x_callVR (M := M_X11_same) (M' := M_X11_slotNumbered) rfl rfl dX11_same_2 m_X11_slotNumbered t_744 t_746 s_2 (q425 hl c0 c1 o1499 o1500) rfl rfl o1499 rfl (Nat.le_of_ble_eq_true rfl) (Nat.le_of_ble_eq_true rfl) (Nat.le_of_ble_eq_true rfl) (Nat.le_of_ble_eq_true rfl) ?_
  refine x_astore_n (M := M_X11_same) dX11_same_5 (Nat.le_of_ble_eq_true rfl) rfl ?_
  refine x_aload_n (M := M_X11_same) dX11_same_6 rfl ?_
  refine x_iload_n (M := M_X11_same) dX11_same_7 rfl ?_
  refine x_callVR (M := M_X11_same) (M' := M_X11_slotNumbered) rfl rfl dX11_same_8 m_X11_slotNumbered t_744 t_746 s_2 (q1503 hl c2 c3 o1499 o1500) rfl rfl o1499 rfl (Nat.le_of_ble_eq_true rfl) (Nat.le_of_ble_eq_true rfl) (Nat.le_of_ble_eq_true rfl) (Nat.le_of_ble_eq_true rfl) ?_
  refine x_astore (M := M_X11_same) dX11_same_11 (Nat.le_of_ble_eq_true rfl) rfl ?_
  refine x_aload_n (M := M_X11_same) dX11_same_13 rfl ?_
  refine x_aload (M := M_X11_same) dX11_same_14 rfl ?_
  refine x_callVR (M := M_X11_same) (M' := M_X6_isLike) rfl rfl dX11_same_16 m_X6_isLike t_1169 t_1170 t_1171 (q1506 hl c0 c1 c2 c3 o1507 o1508) rfl rfl o1507 rfl (Nat.le_of_ble_eq_true rfl) (Nat.le_of_ble_eq_true rfl) (Nat.le_of_ble_eq_true rfl) (Nat.le_of_ble_eq_true rfl) ?_
  exact x_zret (M := M_X11_same) dX11_same_19 rfl (by decide) ⟨rfl, rfl⟩ (Nat.le_of_ble_eq_true rfl) (Nat.le_of_ble_eq_true rfl)
set_option maxRecDepth 10000 in
theorem q1522 {l : Launch} {E : EE} (hl : l.stackTraces = false) {h : HP} {a0 : Int32} {a1 : Int32} (c0 : ¬ (a0.toInt < 0)) (c1 : a0.toInt < 32) (c2 : ¬ (a1.toInt < 0)) (c3 : a1.toInt < 32) (o1510 : ob h 32 = some (.inr (14, [.ref 33, .ref 162, .ref 166, .int (0 : Int32), .int (0 : Int32), .int (0 : Int32), .ref 167, .ref 170, .ref 173, .ref 177, .ref 193, .ref 208, .ref 222, .ref 238, .ref 252, .ref 274, .ref 275, .ref 276, .int (0 : Int32)]))) (o1511 : ob h 33 = some (.inl (4, 32, .inr (.inr (.inr (.inr (shf 1 32))))))) (o1512 : ob h (34 + 4 * a0.toNatClampNeg) = some (.inr (9, [.ref (35 + 4 * a0.toNatClampNeg), .ref (36 + 4 * a0.toNatClampNeg), .ref (37 + 4 * a0.toNatClampNeg), .int (0 : Int32), .int (0 : Int32)]))) (o1513 : ob h (34 + 4 * a1.toNatClampNeg) = some (.inr (9, [.ref (35 + 4 * a1.toNatClampNeg), .ref (36 + 4 * a1.toNatClampNeg), .ref (37 + 4 * a1.toNatClampNeg), .int (0 : Int32), .int (0 : Int32)]))) (o1518 : ob h 359 = some (.inl (1, 1, .inr (.inl (fun _ => 0))))) : en_C l E M_L_same 2 0 0 [.ref 32, .int a0, .int a1, .ref 359] h (pF (some (.int (Int32.ofInt 0))) [359] h (fun h' => ob h' 359 = some (.inl (1, 1, .inr (.inl (vp_updL (fun _ => 0) 0 (Int64.ofInt 1))))) ∧ True)) := by
  have n_a0 : a0.toNatClampNeg < 32 := nc_lt (by omega) (by decide)
  have n_a1 : a1.toNatClampNeg < 32 := nc_lt (by omega) (by decide)
  refine en_mkW m_L_same rfl hl (Nat.le_of_ble_eq_true rfl) ?_
  refine x_aload_n (M := M_L_same) dL_same_0 rfl ?_
  refine x_iconst (M := M_L_same) dL_same_1 ?_
  refine x_aload_n (M := M_L_same) dL_same_2 rfl ?_
  refine x_iload_n (M := M_L_same) dL_same_3 rfl ?_
  refine x_iload_n (M := M_L_same) dL_same_4 rfl ?_
  refine x_callVH (M := M_L_same) (M' := M_X11_same) rfl dL_same_5 m_X11_same t_1165 t_1166 t_1167 o1510 rfl [.int a0, .int a1] rfl rfl (Nat.le_of_ble_eq_true rfl) (q1509 hl c0 c1 c2 c3 o1510 o1511 o1512 o1513) (Nat.le_of_ble_eq_true rfl) (Nat.le_of_ble_eq_true rfl) (Nat.le_of_ble_eq_true rfl) (fun N h' hp => nomatch hp.1) (fun v h' hp => ?_)
  obtain ⟨e1517, rfl⟩ := hp
  cases e1517
  refine x_if_eq (M := M_L_same) (tgt := 15) dL_same_8 (by decide) (fun q => absurd q (by decide +kernel)) (fun _ => ?_)
  refine x_lconst (M := M_L_same) dL_same_11 ?_
  refine x_goto (M := M_L_same) (tgt := 16) dL_same_12 (by decide) ?_
  refine x_norm (M := M_L_same) (st' := [.long (Int64.ofInt 1), .int (Int32.ofInt 0), .ref 359]) rfl (vj_cons (by decide +kernel : (Int64.ofNat ((1 : Fin 2) : Nat)) = (Int64.ofInt 1)) rfl) rfl rfl rfl ?_
  refine y_last (M := M_L_same) (k := 0) dL_same_16 o1518 (vp_inD (by decide +kernel)) (by decide +kernel) (fun h1519 w1520 f1521 => ?_)
  refine x_goto (M := M_L_same) (tgt := 24) dL_same_17 (by decide) ?_
  refine x_iconst (M := M_L_same) dL_same_24 ?_
  exact x_iret (M := M_L_same) dL_same_25 rfl ⟨rfl, (fr_tr f1521 (by decide) fr_rf), ⟨w1520, trivial⟩⟩ (Nat.le_of_ble_eq_true rfl) (Nat.le_of_ble_eq_true rfl)
set_option maxRecDepth 10000 in
theorem q1536 {l : Launch} {E : EE} (hl : l.stackTraces = false) {h : HP} {a1 : Int32} (c0 : ¬ (a1.toInt < 0)) (c1 : a1.toInt < 32) : en_C l E M_X12_isSlot 0 0 0 [.int a1] h (pR (some (.int (Int32.ofInt 1))) h) := by
  refine en_mk m_X12_isSlot rfl hl (Nat.le_of_ble_eq_true rfl) ?_
  refine x_iload_n (M := M_X12_isSlot) dX12_isSlot_0 rfl ?_
  refine x_if_lt (M := M_X12_isSlot) (tgt := 14) dX12_isSlot_1 (by decide) (fun q => absurd ((bi_lt rfl (by decide +kernel)).mp q) (by omega : ¬ (a1.toInt < 0))) (fun _ => ?_)
  refine x_iload_n (M := M_X12_isSlot) dX12_isSlot_4 rfl ?_
  refine x_bipush (M := M_X12_isSlot) dX12_isSlot_5 ?_
  refine x_icmp_ge (M := M_X12_isSlot) (tgt := 14) dX12_isSlot_7 (by decide) (fun q => absurd ((bi_le (by decide +kernel) rfl).mp q) (by omega : ¬ (32 ≤ a1.toInt))) (fun _ => ?_)
  refine x_iconst (M := M_X12_isSlot) dX12_isSlot_10 ?_
  refine x_goto (M := M_X12_isSlot) (tgt := 15) dX12_isSlot_11 (by decide) ?_
  exact x_zret (M := M_X12_isSlot) dX12_isSlot_15 rfl (by decide) ⟨rfl, rfl⟩ (Nat.le_of_ble_eq_true rfl) (Nat.le_of_ble_eq_true rfl)
set_option maxRecDepth 10000 in
theorem q1545 {l : Launch} {E : EE} (hl : l.stackTraces = false) {h : HP} {a0 : Int32} {a1 : Int32} {dg : Int32} (c0 : ¬ (a0.toInt < 0)) (c1 : a0.toInt < 32) (c2 : ¬ (a1.toInt < 0)) (c3 : a1.toInt < 32) (o1532 : ob h 277 = some (.inr (15, (RB dg)))) (o1541 : ob h 280 = some (.inl (0, 33, .inl (fun _ => 0)))) (o1543 : ob h 282 = some (.inl (0, 33, .inl (fun _ => 0)))) : en_C l E M_X12_same 1 0 0 [.ref 277, .int a0, .int a1] h (pF (some (.int (Int32.ofInt 1))) [277] h (fun h' => ob h' 277 = some (.inr (15, ((RB dg).set 0 (.int (Int32.ofInt 0))))) ∧ True)) := by
  refine en_mk m_X12_same rfl hl (Nat.le_of_ble_eq_true rfl) ?_
  refine x_aload_n (M := M_X12_same) dX12_same_0 rfl ?_
  refine x_iconst (M := M_X12_same) dX12_same_1 ?_
  refine y_put (M := M_X12_same) (ci := 15) (C := RX12) (T := TX12) (N := 135) (ty := tyX12) cl15 dX12_same_2 o1532 0 (by decide) t_2391 (Or.inl rfl) (Nat.le_of_ble_eq_true rfl) rfl (fun h1533 w1534 f1535 => ?_)
  refine x_aload_n (M := M_X12_same) dX12_same_5 rfl ?_
  refine x_iload_n (M := M_X12_same) dX12_same_6 rfl ?_
  refine x_callSR (M := M_X12_same) (M' := M_X12_isSlot) rfl rfl dX12_same_7 m_X12_isSlot t_2841 t_2842 (q447 hl c0 c1) rfl rfl (Nat.le_of_ble_eq_true rfl) (Nat.le_of_ble_eq_true rfl) (Nat.le_of_ble_eq_true rfl) (Nat.le_of_ble_eq_true rfl) ?_
  refine x_if_eq (M := M_X12_same) (tgt := 20) dX12_same_10 (by decide) (fun q => absurd q (by decide +kernel)) (fun _ => ?_)
  refine x_iload_n (M := M_X12_same) dX12_same_13 rfl ?_
  refine x_callSR (M := M_X12_same) (M' := M_X12_isSlot) rfl rfl dX12_same_14 m_X12_isSlot t_2841 t_2842 (q1536 hl c2 c3) rfl rfl (Nat.le_of_ble_eq_true rfl) (Nat.le_of_ble_eq_true rfl) (Nat.le_of_ble_eq_true rfl) (Nat.le_of_ble_eq_true rfl) ?_
  refine x_if_ne (M := M_X12_same) (tgt := 24) dX12_same_17 (by decide) (fun _ => ?_) (fun q => absurd q (by decide +kernel))
  refine x_iconst (M := M_X12_same) dX12_same_24 ?_
  refine x_iconst (M := M_X12_same) dX12_same_25 ?_
  refine y_callVR (M := M_X12_same) (M' := M_X12_fails) rfl rfl dX12_same_26 m_X12_fails t_2805 t_2807 s_157 (q241 hl w1534) rfl rfl w1534 rfl (Nat.le_of_ble_eq_true rfl) (Nat.le_of_ble_eq_true rfl) (Nat.le_of_ble_eq_true rfl) (Nat.le_of_ble_eq_true rfl) (fun h1537 f1538 w1539 => ?_)
  obtain ⟨o1540, -⟩ := w1539
  refine x_if_eq (M := M_X12_same) (tgt := 34) dX12_same_29 (by decide) (fun _ => ?_) (fun q => absurd q (by decide +kernel))
  refine x_aload_n (M := M_X12_same) dX12_same_34 rfl ?_
  refine x_getf (M := M_X12_same) (ci := 15) (C := RX12) (T := TX12) (N := 135) (ty := tyX12) cl15 dX12_same_35 o1540 9 (by decide) t_2400 (v := .ref 280) rfl ?_
  refine x_iload_n (M := M_X12_same) dX12_same_38 rfl ?_
  have o1542 := (f1538 280 _ (by decide) (f1535 280 _ (by decide) o1541))
  refine x_iald (M := M_X12_same) dX12_same_39 o1542 (vp_in_s (by omega) (by omega)) ?_
  refine x_top (M := M_X12_same) (y := (Int32.ofInt 0)) rfl ?_
  refine x_aload_n (M := M_X12_same) dX12_same_40 rfl ?_
  refine x_getf (M := M_X12_same) (ci := 15) (C := RX12) (T := TX12) (N := 135) (ty := tyX12) cl15 dX12_same_41 o1540 9 (by decide) t_2400 (v := .ref 280) rfl ?_
  refine x_iload_n (M := M_X12_same) dX12_same_44 rfl ?_
  refine x_iald (M := M_X12_same) dX12_same_45 o1542 (vp_in_s (by omega) (by omega)) ?_
  refine x_top (M := M_X12_same) (y := (Int32.ofInt 0)) rfl ?_
  refine x_icmp_ne (M := M_X12_same) (tgt := 68) dX12_same_46 (by decide) (fun q => absurd q (by decide +kernel)) (fun _ => ?_)
  refine x_aload_n (M := M_X12_same) dX12_same_49 rfl ?_
  refine x_getf (M := M_X12_same) (ci := 15) (C := RX12) (T := TX12) (N := 135) (ty := tyX12) cl15 dX12_same_50 o1540 11 (by decide) t_2402 (v := .ref 282) rfl ?_
  refine x_iload_n (M := M_X12_same) dX12_same_53 rfl ?_
  have o1544 := (f1538 282 _ (by decide) (f1535 282 _ (by decide) o1543))
  refine x_iald (M := M_X12_same) dX12_same_54 o1544 (vp_in_s (by omega) (by omega)) ?_
  refine x_top (M := M_X12_same) (y := (Int32.ofInt 0)) rfl ?_
  refine x_aload_n (M := M_X12_same) dX12_same_55 rfl ?_
  refine x_getf (M := M_X12_same) (ci := 15) (C := RX12) (T := TX12) (N := 135) (ty := tyX12) cl15 dX12_same_56 o1540 11 (by decide) t_2402 (v := .ref 282) rfl ?_
  refine x_iload_n (M := M_X12_same) dX12_same_59 rfl ?_
  refine x_iald (M := M_X12_same) dX12_same_60 o1544 (vp_in_s (by omega) (by omega)) ?_
  refine x_top (M := M_X12_same) (y := (Int32.ofInt 0)) rfl ?_
  refine x_icmp_ne (M := M_X12_same) (tgt := 68) dX12_same_61 (by decide) (fun q => absurd q (by decide +kernel)) (fun _ => ?_)
  refine x_iconst (M := M_X12_same) dX12_same_64 ?_
  refine x_goto (M := M_X12_same) (tgt := 69) dX12_same_65 (by decide) ?_
  refine x_istore_n (M := M_X12_same) dX12_same_69 (Nat.le_of_ble_eq_true rfl) rfl ?_
  refine x_iconst (M := M_X12_same) dX12_same_70 ?_
  refine x_istore (M := M_X12_same) dX12_same_71 (Nat.le_of_ble_eq_true rfl) rfl ?_
  refine x_iload_n (M := M_X12_same) dX12_same_73 rfl ?_
  refine x_if_eq (M := M_X12_same) (tgt := 129) dX12_same_74 (by decide) (fun q => absurd q (by decide +kernel)) (fun _ => ?_)
  refine x_iload (M := M_X12_same) dX12_same_77 rfl ?_
  refine x_aload_n (M := M_X12_same) dX12_same_79 rfl ?_
  refine x_getf (M := M_X12_same) (ci := 15) (C := RX12) (T := TX12) (N := 135) (ty := tyX12) cl15 dX12_same_80 o1540 9 (by decide) t_2400 (v := .ref 280) rfl ?_
  refine x_iload_n (M := M_X12_same) dX12_same_83 rfl ?_
  refine x_iald (M := M_X12_same) dX12_same_84 o1542 (vp_in_s (by omega) (by omega)) ?_
  refine x_top (M := M_X12_same) (y := (Int32.ofInt 0)) rfl ?_
  refine x_icmp_ge (M := M_X12_same) (tgt := 129) dX12_same_85 (by decide) (fun _ => ?_) (fun q => absurd q (by decide +kernel))
  refine x_iconst (M := M_X12_same) dX12_same_129 ?_
  refine x_istore (M := M_X12_same) dX12_same_130 (Nat.le_of_ble_eq_true rfl) rfl ?_
  refine x_iload_n (M := M_X12_same) dX12_same_132 rfl ?_
  refine x_if_eq (M := M_X12_same) (tgt := 217) dX12_same_133 (by decide) (fun q => absurd q (by decide +kernel)) (fun _ => ?_)
  refine x_iload (M := M_X12_same) dX12_same_136 rfl ?_
  refine x_aload_n (M := M_X12_same) dX12_same_138 rfl ?_
  refine x_getf (M := M_X12_same) (ci := 15) (C := RX12) (T := TX12) (N := 135) (ty := tyX12) cl15 dX12_same_139 o1540 11 (by decide) t_2402 (v := .ref 282) rfl ?_
  refine x_iload_n (M := M_X12_same) dX12_same_142 rfl ?_
  refine x_iald (M := M_X12_same) dX12_same_143 o1544 (vp_in_s (by omega) (by omega)) ?_
  refine x_top (M := M_X12_same) (y := (Int32.ofInt 0)) rfl ?_
  refine x_icmp_ge (M := M_X12_same) (tgt := 217) dX12_same_144 (by decide) (fun _ => ?_) (fun q => absurd q (by decide +kernel))
  refine x_iload_n (M := M_X12_same) dX12_same_217 rfl ?_
  exact x_zret (M := M_X12_same) dX12_same_218 rfl (by decide) ⟨rfl, (fr_tr f1538 (by decide) (fr_tr f1535 (by decide) fr_rf)), ⟨o1540, trivial⟩⟩ (Nat.le_of_ble_eq_true rfl) (Nat.le_of_ble_eq_true rfl)
set_option maxRecDepth 10000 in
theorem lc11_2 {l : Launch} {E : EE} (hl : l.stackTraces = false) (nm : String) {xs : Nat → Int32} (hx : E.2.2.2.2 0 = some (7, xs)) {h : HP} {a0 : Int32} {a1 : Int32} {dg : Int32} (e2 : xs 2 = a0) (e3 : xs 3 = a1) (c0 : ¬ (a0.toInt < 0)) (c1 : a0.toInt < 32) (c2 : ¬ (a1.toInt < 0)) (c3 : a1.toInt < 32) (o1523 : ob h 32 = some (.inr (14, [.ref 33, .ref 162, .ref 166, .int (0 : Int32), .int (0 : Int32), .int (0 : Int32), .ref 167, .ref 170, .ref 173, .ref 177, .ref 193, .ref 208, .ref 222, .ref 238, .ref 252, .ref 274, .ref 275, .ref 276, .int (0 : Int32)]))) (o1524 : ob h 33 = some (.inl (4, 32, .inr (.inr (.inr (.inr (shf 1 32))))))) (o1525 : ob h (34 + 4 * a0.toNatClampNeg) = some (.inr (9, [.ref (35 + 4 * a0.toNatClampNeg), .ref (36 + 4 * a0.toNatClampNeg), .ref (37 + 4 * a0.toNatClampNeg), .int (0 : Int32), .int (0 : Int32)]))) (o1526 : ob h (34 + 4 * a1.toNatClampNeg) = some (.inr (9, [.ref (35 + 4 * a1.toNatClampNeg), .ref (36 + 4 * a1.toNatClampNeg), .ref (37 + 4 * a1.toNatClampNeg), .int (0 : Int32), .int (0 : Int32)]))) (o1527 : ob h 359 = some (.inl (1, 1, .inr (.inl (fun _ => 0))))) (o1546 : ob h 277 = some (.inr (15, (RB dg)))) (o1548 : ob h 280 = some (.inl (0, 33, .inl (fun _ => 0)))) (o1550 : ob h 282 = some (.inl (0, 33, .inl (fun _ => 0)))) : XX l E (M_law nm) 1312 342628 8074320 (fun o _ => o = .inl (some (.int 1))) 844 [some (.ref 0), some (.ref 32), some (.ref 277), some (.ref 359), some (.int (Int32.ofInt 1)), none, none, none] [] h 328 2463747 := by
  have n_a0 : a0.toNatClampNeg < 32 := nc_lt (by omega) (by decide)
  have n_a1 : a1.toNatClampNeg < 32 := nc_lt (by omega) (by decide)
  refine x_aload_n (M := (M_law nm)) dL_law_844 rfl ?_
  refine x_aload_n (M := (M_law nm)) dL_law_845 rfl ?_
  refine x_iload (M := (M_law nm)) dL_law_846 rfl ?_
  refine x_iconst (M := (M_law nm)) dL_law_848 ?_
  refine x_iadd (M := (M_law nm)) dL_law_849 ?_
  refine x_sald (M := (M_law nm)) dL_law_850 (by decide) hx (vp_inD (by decide +kernel)) ?_
  refine x_top (M := (M_law nm)) (y := a0) ((congrArg xs (by decide +kernel : ((Int32.ofInt 1) + (Int32.ofInt 1)).toNatClampNeg = 2)).trans e2) ?_
  refine x_aload_n (M := (M_law nm)) dL_law_851 rfl ?_
  refine x_iload (M := (M_law nm)) dL_law_852 rfl ?_
  refine x_iconst (M := (M_law nm)) dL_law_854 ?_
  refine x_iadd (M := (M_law nm)) dL_law_855 ?_
  refine x_sald (M := (M_law nm)) dL_law_856 (by decide) hx (vp_inD (by decide +kernel)) ?_
  refine x_top (M := (M_law nm)) (y := a1) ((congrArg xs (by decide +kernel : ((Int32.ofInt 1) + (Int32.ofInt 2)).toNatClampNeg = 3)).trans e3) ?_
  refine x_aload_n (M := (M_law nm)) dL_law_857 rfl ?_
  refine y_callSW (M := (M_law nm)) (M' := M_L_same) rfl rfl dL_law_858 m_L_same t_1162 t_1163 (q1522 hl c0 c1 c2 c3 o1523 o1524 o1525 o1526 o1527) rfl rfl (Nat.le_of_ble_eq_true rfl) (Nat.le_of_ble_eq_true rfl) (Nat.le_of_ble_eq_true rfl) (Nat.le_of_ble_eq_true rfl) (fun h1528 f1529 w1530 => ?_)
  obtain ⟨o1531, -⟩ := w1530
  refine x_istore (M := (M_law nm)) dL_law_861 (Nat.le_of_ble_eq_true rfl) rfl ?_
  refine x_aload_n (M := (M_law nm)) dL_law_863 rfl ?_
  refine x_aload_n (M := (M_law nm)) dL_law_864 rfl ?_
  refine x_iload (M := (M_law nm)) dL_law_865 rfl ?_
  refine x_iconst (M := (M_law nm)) dL_law_867 ?_
  refine x_iadd (M := (M_law nm)) dL_law_868 ?_
  refine x_sald (M := (M_law nm)) dL_law_869 (by decide) hx (vp_inD (by decide +kernel)) ?_
  refine x_top (M := (M_law nm)) (y := a0) ((congrArg xs (by decide +kernel : ((Int32.ofInt 1) + (Int32.ofInt 1)).toNatClampNeg = 2)).trans e2) ?_
  refine x_aload_n (M := (M_law nm)) dL_law_870 rfl ?_
  refine x_iload (M := (M_law nm)) dL_law_871 rfl ?_
  refine x_iconst (M := (M_law nm)) dL_law_873 ?_
  refine x_iadd (M := (M_law nm)) dL_law_874 ?_
  refine x_sald (M := (M_law nm)) dL_law_875 (by decide) hx (vp_inD (by decide +kernel)) ?_
  refine x_top (M := (M_law nm)) (y := a1) ((congrArg xs (by decide +kernel : ((Int32.ofInt 1) + (Int32.ofInt 2)).toNatClampNeg = 3)).trans e3) ?_
  have o1547 := (f1529 277 _ (by decide) o1546)
  have o1549 := (f1529 280 _ (by decide) o1548)
  have o1551 := (f1529 282 _ (by decide) o1550)
  refine y_callVR (M := (M_law nm)) (M' := M_X12_same) rfl rfl dL_law_876 m_X12_same t_3102 t_3103 t_3104 (q1545 hl c0 c1 c2 c3 o1547 o1549 o1551) rfl rfl o1547 rfl (Nat.le_of_ble_eq_true rfl) (Nat.le_of_ble_eq_true rfl) (Nat.le_of_ble_eq_true rfl) (Nat.le_of_ble_eq_true rfl) (fun h1552 f1553 w1554 => ?_)
  obtain ⟨o1555, -⟩ := w1554
  refine x_istore (M := (M_law nm)) dL_law_879 (Nat.le_of_ble_eq_true rfl) rfl ?_
  refine x_aload_n (M := (M_law nm)) dL_law_881 rfl ?_
  refine x_callVR (M := (M_law nm)) (M' := M_X12_thrown) rfl rfl dL_law_882 m_X12_thrown t_2797 t_2798 t_2799 (q254 hl o1555) rfl rfl o1555 rfl (Nat.le_of_ble_eq_true rfl) (Nat.le_of_ble_eq_true rfl) (Nat.le_of_ble_eq_true rfl) (Nat.le_of_ble_eq_true rfl) ?_
  refine x_iload (M := (M_law nm)) dL_law_885 rfl ?_
  refine x_icmp_eq (M := (M_law nm)) (tgt := 892) dL_law_887 (by decide) (fun _ => ?_) (fun q => absurd q (by decide +kernel))
  refine x_iload (M := (M_law nm)) dL_law_892 rfl ?_
  refine x_if_ne (M := (M_law nm)) (tgt := 916) dL_law_894 (by decide) (fun q => absurd q (by decide +kernel)) (fun _ => ?_)
  refine x_aload_n (M := (M_law nm)) dL_law_897 rfl ?_
  refine x_iconst (M := (M_law nm)) dL_law_898 ?_
  have o1556 := (f1553 359 _ (by decide) o1531)
  refine x_lald (M := (M_law nm)) dL_law_899 o1556 (vp_inD (by decide +kernel)) ?_
  refine x_topl (M := (M_law nm)) (y := (Int64.ofInt 1)) (by decide +kernel) ?_
  refine x_iload (M := (M_law nm)) dL_law_900 rfl ?_
  refine x_if_eq (M := (M_law nm)) (tgt := 909) dL_law_902 (by decide) (fun q => absurd q (by decide +kernel)) (fun _ => ?_)
  refine x_lconst (M := (M_law nm)) dL_law_905 ?_
  refine x_goto (M := (M_law nm)) (tgt := 910) dL_law_906 (by decide) ?_
  refine x_lcmp (M := (M_law nm)) dL_law_910 ?_
  refine x_if_eq (M := (M_law nm)) (tgt := 916) dL_law_911 (by decide) (fun _ => ?_) (fun q => absurd q (by decide +kernel))
  refine x_goto (M := (M_law nm)) (tgt := 2449) dL_law_916 (by decide) ?_
  refine x_iinc (M := (M_law nm)) dL_law_2449 rfl (Nat.le_of_ble_eq_true rfl) rfl ?_
  refine x_lvs (M := (M_law nm)) (lv' := [some (.ref 0), some (.ref 32), some (.ref 277), some (.ref 359), some (.int (Int32.ofInt 7)), some (.int (Int32.ofInt 0)), some (.int (Int32.ofInt 1)), none]) (by rw [(by decide +kernel : (Int32.ofInt 1) + Int32.ofInt 6 = (Int32.ofInt 7))] <;> rfl) ?_
  refine x_goto (M := (M_law nm)) (tgt := 33) dL_law_2452 (by decide) ?_
  refine x_iload (M := (M_law nm)) dL_law_33 rfl ?_
  refine x_aload_n (M := (M_law nm)) dL_law_35 rfl ?_
  refine x_slen (M := (M_law nm)) dL_law_36 (by decide) hx ?_
  refine x_bipush (M := (M_law nm)) dL_law_37 ?_
  refine x_isub (M := (M_law nm)) dL_law_39 ?_
  refine x_icmp_gt (M := (M_law nm)) (tgt := 2455) dL_law_40 (by decide) (fun _ => ?_) (fun q => absurd q (by decide +kernel))
  refine x_iconst (M := (M_law nm)) dL_law_2455 ?_
  exact x_zret (M := (M_law nm)) dL_law_2456 rfl (by decide) rfl (Nat.le_of_ble_eq_true rfl) (Nat.le_of_ble_eq_true rfl)
set_option maxRecDepth 10000 in
theorem q1560 {l : Launch} {E : EE} (hl : l.stackTraces = false) {h : HP} {a1 : Int32} (c0 : ¬ (a1.toInt < 0)) (c1 : ¬ (a1.toInt < 32)) : en_C l E M_X11_slotNumbered 6 1 6 [.ref 32, .int a1] h (pT "java/lang/IndexOutOfBoundsException" [] h (fun _ => True)) := by
  refine en_mk m_X11_slotNumbered rfl hl (Nat.le_of_ble_eq_true rfl) ?_
  refine x_iload_n (M := M_X11_slotNumbered) dX11_slotNumbered_0 rfl ?_
  refine x_if_lt (M := M_X11_slotNumbered) (tgt := 10) dX11_slotNumbered_1 (by decide) (fun q => absurd ((bi_lt rfl (by decide +kernel)).mp q) (by omega : ¬ (a1.toInt < 0))) (fun _ => ?_)
  refine x_iload_n (M := M_X11_slotNumbered) dX11_slotNumbered_4 rfl ?_
  refine x_bipush (M := M_X11_slotNumbered) dX11_slotNumbered_5 ?_
  refine x_icmp_lt (M := M_X11_slotNumbered) (tgt := 18) dX11_slotNumbered_7 (by decide) (fun q => absurd ((bi_lt rfl (by decide +kernel)).mp q) (by omega : ¬ (a1.toInt < 32))) (fun _ => ?_)
  exact x_throw (M := M_X11_slotNumbered) (names := en_nm) rfl dX11_slotNumbered_10 dX11_slotNumbered_13 dX11_slotNumbered_14 dX11_slotNumbered_17 (by decide +kernel) en_nm_ok (Or.inl t_748) (Or.inl t_22) (at_X11_IndexOutOfBoundsException_139) (Nat.le_of_ble_eq_true rfl) (Nat.le_of_ble_eq_true rfl) (Nat.le_of_ble_eq_true rfl) (Nat.le_of_ble_eq_true rfl) (fun n9 => ⟨rfl, (fr_tr (fr_app (List.replicate n9 none)) (fun _ h => nomatch h) fr_rf), trivial⟩)
set_option maxRecDepth 10000 in
theorem q1564 {l : Launch} {E : EE} (hl : l.stackTraces = false) {h : HP} {a0 : Int32} {a1 : Int32} (c0 : ¬ (a0.toInt < 0)) (c1 : a0.toInt < 32) (c2 : ¬ (a1.toInt < 0)) (c3 : ¬ (a1.toInt < 32)) (o1557 : ob h 32 = some (.inr (14, [.ref 33, .ref 162, .ref 166, .int (0 : Int32), .int (0 : Int32), .int (0 : Int32), .ref 167, .ref 170, .ref 173, .ref 177, .ref 193, .ref 208, .ref 222, .ref 238, .ref 252, .ref 274, .ref 275, .ref 276, .int (0 : Int32)]))) (o1558 : ob h 33 = some (.inl (4, 32, .inr (.inr (.inr (.inr (shf 1 32))))))) : en_C l E M_X11_same 7 1 6 [.ref 32, .int a0, .int a1] h (pT "java/lang/IndexOutOfBoundsException" [] h (fun _ => True)) := by
  refine en_mk m_X11_same rfl hl (Nat.le_of_ble_eq_true rfl) ?_
  refine x_aload_n (M := M_X11_same) dX11_same_0 rfl ?_
  refine x_iload_n (M := M_X11_same) dX11_same_1 rfl ?_
  refine x_callVR (M := M_X11_same) (M' := M_X11_slotNumbered) rfl rfl dX11_same_2 m_X11_slotNumbered t_744 t_746 s_2 (q425 hl c0 c1 o1557 o1558) rfl rfl o1557 rfl (Nat.le_of_ble_eq_true rfl) (Nat.le_of_ble_eq_true rfl) (Nat.le_of_ble_eq_true rfl) (Nat.le_of_ble_eq_true rfl) ?_
  refine x_astore_n (M := M_X11_same) dX11_same_5 (Nat.le_of_ble_eq_true rfl) rfl ?_
  refine x_aload_n (M := M_X11_same) dX11_same_6 rfl ?_
  refine x_iload_n (M := M_X11_same) dX11_same_7 rfl ?_
  exact y_callVX (M := M_X11_same) (M' := M_X11_slotNumbered) rfl rfl dX11_same_8 m_X11_slotNumbered t_744 t_746 s_2 (q1560 hl c2 c3) rfl rfl o1557 rfl (Nat.le_of_ble_eq_true rfl) (Nat.le_of_ble_eq_true rfl) (Nat.le_of_ble_eq_true rfl) (Nat.le_of_ble_eq_true rfl) (fun h1561 f1562 w1563 => ⟨rfl, (fr_tr f1562 (fun _ h => nomatch h) fr_rf), trivial⟩)
set_option maxRecDepth 10000 in
theorem q1570 {l : Launch} {E : EE} (hl : l.stackTraces = false) {h : HP} {a0 : Int32} {a1 : Int32} (c0 : ¬ (a0.toInt < 0)) (c1 : a0.toInt < 32) (c2 : ¬ (a1.toInt < 0)) (c3 : ¬ (a1.toInt < 32)) (o1565 : ob h 32 = some (.inr (14, [.ref 33, .ref 162, .ref 166, .int (0 : Int32), .int (0 : Int32), .int (0 : Int32), .ref 167, .ref 170, .ref 173, .ref 177, .ref 193, .ref 208, .ref 222, .ref 238, .ref 252, .ref 274, .ref 275, .ref 276, .int (0 : Int32)]))) (o1566 : ob h 33 = some (.inl (4, 32, .inr (.inr (.inr (.inr (shf 1 32))))))) : en_C l E M_L_same 8 1 6 [.ref 32, .int a0, .int a1, .ref 359] h (pF (some (.int (Int32.ofInt 1))) [] h (fun _ => True)) := by
  refine en_mkW m_L_same rfl hl (Nat.le_of_ble_eq_true rfl) ?_
  refine x_aload_n (M := M_L_same) dL_same_0 rfl ?_
  refine x_iconst (M := M_L_same) dL_same_1 ?_
  refine x_aload_n (M := M_L_same) dL_same_2 rfl ?_
  refine x_iload_n (M := M_L_same) dL_same_3 rfl ?_
  refine x_iload_n (M := M_L_same) dL_same_4 rfl ?_
  refine y_callVHX (M := M_L_same) (M' := M_X11_same) (i9 := 4) (nx := 22) rfl dL_same_5 m_X11_same t_1165 t_1166 t_1167 o1565 rfl (q1564 hl c0 c1 c2 c3 o1565 o1566) rfl rfl (Nat.le_of_ble_eq_true rfl) (Nat.le_of_ble_eq_true rfl) (Nat.le_of_ble_eq_true rfl) (Nat.le_of_ble_eq_true rfl) (en_hdm (k0 := 4) [] [] rfl (fun _ h => nomatch h) (by decide +kernel) (by decide) t_739 n_750 dL_same_20) (by decide) rfl (fun h1567 f1568 w1569 => ?_)
  refine x_iconst (M := M_L_same) dL_same_22 ?_
  exact x_iret (M := M_L_same) dL_same_23 rfl ⟨rfl, (fr_tr f1568 (fun _ h => nomatch h) fr_rf), trivial⟩ (Nat.le_of_ble_eq_true rfl) (Nat.le_of_ble_eq_true rfl)
set_option maxRecDepth 10000 in
theorem q1580 {l : Launch} {E : EE} (hl : l.stackTraces = false) {h : HP} {a1 : Int32} (c0 : ¬ (a1.toInt < 0)) (c1 : ¬ (a1.toInt < 32)) : en_C l E M_X12_isSlot 0 0 0 [.int a1] h (pR (some (.int (Int32.ofInt 0))) h) := by
  refine en_mk m_X12_isSlot rfl hl (Nat.le_of_ble_eq_true rfl) ?_
  refine x_iload_n (M := M_X12_isSlot) dX12_isSlot_0 rfl ?_
  refine x_if_lt (M := M_X12_isSlot) (tgt := 14) dX12_isSlot_1 (by decide) (fun q => absurd ((bi_lt rfl (by decide +kernel)).mp q) (by omega : ¬ (a1.toInt < 0))) (fun _ => ?_)
  refine x_iload_n (M := M_X12_isSlot) dX12_isSlot_4 rfl ?_
  refine x_bipush (M := M_X12_isSlot) dX12_isSlot_5 ?_
  refine x_icmp_ge (M := M_X12_isSlot) (tgt := 14) dX12_isSlot_7 (by decide) (fun _ => ?_) (fun q => absurd ((bi_le (by decide +kernel) rfl).mpr (by omega : (32 ≤ a1.toInt : Prop))) q)
  refine x_iconst (M := M_X12_isSlot) dX12_isSlot_14 ?_
  exact x_zret (M := M_X12_isSlot) dX12_isSlot_15 rfl (by decide) ⟨rfl, rfl⟩ (Nat.le_of_ble_eq_true rfl) (Nat.le_of_ble_eq_true rfl)
set_option maxRecDepth 10000 in
theorem q1585 {l : Launch} {E : EE} (hl : l.stackTraces = false) {h : HP} {a0 : Int32} {a1 : Int32} {dg : Int32} (c0 : ¬ (a0.toInt < 0)) (c1 : a0.toInt < 32) (c2 : ¬ (a1.toInt < 0)) (c3 : ¬ (a1.toInt < 32)) (o1576 : ob h 277 = some (.inr (15, (RB dg)))) : en_C l E M_X12_same 1 0 0 [.ref 277, .int a0, .int a1] h (pF (some (.int (Int32.ofInt 0))) [277] h (fun h' => ob h' 277 = some (.inr (15, ((RB dg).set 0 (.int (Int32.ofInt 1))))) ∧ True)) := by
  refine en_mk m_X12_same rfl hl (Nat.le_of_ble_eq_true rfl) ?_
  refine x_aload_n (M := M_X12_same) dX12_same_0 rfl ?_
  refine x_iconst (M := M_X12_same) dX12_same_1 ?_
  refine y_put (M := M_X12_same) (ci := 15) (C := RX12) (T := TX12) (N := 135) (ty := tyX12) cl15 dX12_same_2 o1576 0 (by decide) t_2391 (Or.inl rfl) (Nat.le_of_ble_eq_true rfl) rfl (fun h1577 w1578 f1579 => ?_)
  refine x_aload_n (M := M_X12_same) dX12_same_5 rfl ?_
  refine x_iload_n (M := M_X12_same) dX12_same_6 rfl ?_
  refine x_callSR (M := M_X12_same) (M' := M_X12_isSlot) rfl rfl dX12_same_7 m_X12_isSlot t_2841 t_2842 (q447 hl c0 c1) rfl rfl (Nat.le_of_ble_eq_true rfl) (Nat.le_of_ble_eq_true rfl) (Nat.le_of_ble_eq_true rfl) (Nat.le_of_ble_eq_true rfl) ?_
  refine x_if_eq (M := M_X12_same) (tgt := 20) dX12_same_10 (by decide) (fun q => absurd q (by decide +kernel)) (fun _ => ?_)
  refine x_iload_n (M := M_X12_same) dX12_same_13 rfl ?_
  refine x_callSR (M := M_X12_same) (M' := M_X12_isSlot) rfl rfl dX12_same_14 m_X12_isSlot t_2841 t_2842 (q1580 hl c2 c3) rfl rfl (Nat.le_of_ble_eq_true rfl) (Nat.le_of_ble_eq_true rfl) (Nat.le_of_ble_eq_true rfl) (Nat.le_of_ble_eq_true rfl) ?_
  refine x_if_ne (M := M_X12_same) (tgt := 24) dX12_same_17 (by decide) (fun q => absurd q (by decide +kernel)) (fun _ => ?_)
  refine x_iconst (M := M_X12_same) dX12_same_20 ?_
  refine x_goto (M := M_X12_same) (tgt := 25) dX12_same_21 (by decide) ?_
  refine x_iconst (M := M_X12_same) dX12_same_25 ?_
  refine y_callVR (M := M_X12_same) (M' := M_X12_fails) rfl rfl dX12_same_26 m_X12_fails t_2805 t_2807 s_157 (q22 hl w1578) rfl rfl w1578 rfl (Nat.le_of_ble_eq_true rfl) (Nat.le_of_ble_eq_true rfl) (Nat.le_of_ble_eq_true rfl) (Nat.le_of_ble_eq_true rfl) (fun h1581 f1582 w1583 => ?_)
  obtain ⟨o1584, -⟩ := w1583
  refine x_if_eq (M := M_X12_same) (tgt := 34) dX12_same_29 (by decide) (fun q => absurd q (by decide +kernel)) (fun _ => ?_)
  refine x_iconst (M := M_X12_same) dX12_same_32 ?_
  exact x_zret (M := M_X12_same) dX12_same_33 rfl (by decide) ⟨rfl, (fr_tr f1582 (by decide) (fr_tr f1579 (by decide) fr_rf)), ⟨o1584, trivial⟩⟩ (Nat.le_of_ble_eq_true rfl) (Nat.le_of_ble_eq_true rfl)
set_option maxRecDepth 10000 in
theorem lc11_3 {l : Launch} {E : EE} (hl : l.stackTraces = false) (nm : String) {xs : Nat → Int32} (hx : E.2.2.2.2 0 = some (7, xs)) {h : HP} {a0 : Int32} {a1 : Int32} {dg : Int32} (e2 : xs 2 = a0) (e3 : xs 3 = a1) (c0 : ¬ (a0.toInt < 0)) (c1 : a0.toInt < 32) (c2 : ¬ (a1.toInt < 0)) (c3 : ¬ (a1.toInt < 32)) (o1571 : ob h 32 = some (.inr (14, [.ref 33, .ref 162, .ref 166, .int (0 : Int32), .int (0 : Int32), .int (0 : Int32), .ref 167, .ref 170, .ref 173, .ref 177, .ref 193, .ref 208, .ref 222, .ref 238, .ref 252, .ref 274, .ref 275, .ref 276, .int (0 : Int32)]))) (o1572 : ob h 33 = some (.inl (4, 32, .inr (.inr (.inr (.inr (shf 1 32))))))) (o1586 : ob h 277 = some (.inr (15, (RB dg)))) : XX l E (M_law nm) 1312 342628 8074320 (fun o _ => o = .inl (some (.int 1))) 844 [some (.ref 0), some (.ref 32), some (.ref 277), some (.ref 359), some (.int (Int32.ofInt 1)), none, none, none] [] h 328 2463747 := by
  refine x_aload_n (M := (M_law nm)) dL_law_844 rfl ?_
  refine x_aload_n (M := (M_law nm)) dL_law_845 rfl ?_
  refine x_iload (M := (M_law nm)) dL_law_846 rfl ?_
  refine x_iconst (M := (M_law nm)) dL_law_848 ?_
  refine x_iadd (M := (M_law nm)) dL_law_849 ?_
  refine x_sald (M := (M_law nm)) dL_law_850 (by decide) hx (vp_inD (by decide +kernel)) ?_
  refine x_top (M := (M_law nm)) (y := a0) ((congrArg xs (by decide +kernel : ((Int32.ofInt 1) + (Int32.ofInt 1)).toNatClampNeg = 2)).trans e2) ?_
  refine x_aload_n (M := (M_law nm)) dL_law_851 rfl ?_
  refine x_iload (M := (M_law nm)) dL_law_852 rfl ?_
  refine x_iconst (M := (M_law nm)) dL_law_854 ?_
  refine x_iadd (M := (M_law nm)) dL_law_855 ?_
  refine x_sald (M := (M_law nm)) dL_law_856 (by decide) hx (vp_inD (by decide +kernel)) ?_
  refine x_top (M := (M_law nm)) (y := a1) ((congrArg xs (by decide +kernel : ((Int32.ofInt 1) + (Int32.ofInt 2)).toNatClampNeg = 3)).trans e3) ?_
  refine x_aload_n (M := (M_law nm)) dL_law_857 rfl ?_
  refine y_callSW (M := (M_law nm)) (M' := M_L_same) rfl rfl dL_law_858 m_L_same t_1162 t_1163 (q1570 hl c0 c1 c2 c3 o1571 o1572) rfl rfl (Nat.le_of_ble_eq_true rfl) (Nat.le_of_ble_eq_true rfl) (Nat.le_of_ble_eq_true rfl) (Nat.le_of_ble_eq_true rfl) (fun h1573 f1574 w1575 => ?_)
  refine x_istore (M := (M_law nm)) dL_law_861 (Nat.le_of_ble_eq_true rfl) rfl ?_
  refine x_aload_n (M := (M_law nm)) dL_law_863 rfl ?_
  refine x_aload_n (M := (M_law nm)) dL_law_864 rfl ?_
  refine x_iload (M := (M_law nm)) dL_law_865 rfl ?_
  refine x_iconst (M := (M_law nm)) dL_law_867 ?_
  refine x_iadd (M := (M_law nm)) dL_law_868 ?_
  refine x_sald (M := (M_law nm)) dL_law_869 (by decide) hx (vp_inD (by decide +kernel)) ?_
  refine x_top (M := (M_law nm)) (y := a0) ((congrArg xs (by decide +kernel : ((Int32.ofInt 1) + (Int32.ofInt 1)).toNatClampNeg = 2)).trans e2) ?_
  refine x_aload_n (M := (M_law nm)) dL_law_870 rfl ?_
  refine x_iload (M := (M_law nm)) dL_law_871 rfl ?_
  refine x_iconst (M := (M_law nm)) dL_law_873 ?_
  refine x_iadd (M := (M_law nm)) dL_law_874 ?_
  refine x_sald (M := (M_law nm)) dL_law_875 (by decide) hx (vp_inD (by decide +kernel)) ?_
  refine x_top (M := (M_law nm)) (y := a1) ((congrArg xs (by decide +kernel : ((Int32.ofInt 1) + (Int32.ofInt 2)).toNatClampNeg = 3)).trans e3) ?_
  have o1587 := (f1574 277 _ (by decide) o1586)
  refine y_callVR (M := (M_law nm)) (M' := M_X12_same) rfl rfl dL_law_876 m_X12_same t_3102 t_3103 t_3104 (q1585 hl c0 c1 c2 c3 o1587) rfl rfl o1587 rfl (Nat.le_of_ble_eq_true rfl) (Nat.le_of_ble_eq_true rfl) (Nat.le_of_ble_eq_true rfl) (Nat.le_of_ble_eq_true rfl) (fun h1588 f1589 w1590 => ?_)
  obtain ⟨o1591, -⟩ := w1590
  refine x_istore (M := (M_law nm)) dL_law_879 (Nat.le_of_ble_eq_true rfl) rfl ?_
  refine x_aload_n (M := (M_law nm)) dL_law_881 rfl ?_
  refine x_callVR (M := (M_law nm)) (M' := M_X12_thrown) rfl rfl dL_law_882 m_X12_thrown t_2797 t_2798 t_2799 (q35 hl o1591) rfl rfl o1591 rfl (Nat.le_of_ble_eq_true rfl) (Nat.le_of_ble_eq_true rfl) (Nat.le_of_ble_eq_true rfl) (Nat.le_of_ble_eq_true rfl) ?_
  refine x_iload (M := (M_law nm)) dL_law_885 rfl ?_
  refine x_icmp_eq (M := (M_law nm)) (tgt := 892) dL_law_887 (by decide) (fun _ => ?_) (fun q => absurd q (by decide +kernel))
  refine x_iload (M := (M_law nm)) dL_law_892 rfl ?_
  refine x_if_ne (M := (M_law nm)) (tgt := 916) dL_law_894 (by decide) (fun _ => ?_) (fun q => absurd q (by decide +kernel))
  refine x_goto (M := (M_law nm)) (tgt := 2449) dL_law_916 (by decide) ?_
  refine x_iinc (M := (M_law nm)) dL_law_2449 rfl (Nat.le_of_ble_eq_true rfl) rfl ?_
  refine x_lvs (M := (M_law nm)) (lv' := [some (.ref 0), some (.ref 32), some (.ref 277), some (.ref 359), some (.int (Int32.ofInt 7)), some (.int (Int32.ofInt 1)), some (.int (Int32.ofInt 0)), none]) (by rw [(by decide +kernel : (Int32.ofInt 1) + Int32.ofInt 6 = (Int32.ofInt 7))] <;> rfl) ?_
  refine x_goto (M := (M_law nm)) (tgt := 33) dL_law_2452 (by decide) ?_
  refine x_iload (M := (M_law nm)) dL_law_33 rfl ?_
  refine x_aload_n (M := (M_law nm)) dL_law_35 rfl ?_
  refine x_slen (M := (M_law nm)) dL_law_36 (by decide) hx ?_
  refine x_bipush (M := (M_law nm)) dL_law_37 ?_
  refine x_isub (M := (M_law nm)) dL_law_39 ?_
  refine x_icmp_gt (M := (M_law nm)) (tgt := 2455) dL_law_40 (by decide) (fun _ => ?_) (fun q => absurd q (by decide +kernel))
  refine x_iconst (M := (M_law nm)) dL_law_2455 ?_
  exact x_zret (M := (M_law nm)) dL_law_2456 rfl (by decide) rfl (Nat.le_of_ble_eq_true rfl) (Nat.le_of_ble_eq_true rfl)
set_option maxRecDepth 10000 in
theorem q1596 {l : Launch} {E : EE} (hl : l.stackTraces = false) {h : HP} {a0 : Int32} {a1 : Int32} (c0 : ¬ (a0.toInt < 0)) (c1 : ¬ (a0.toInt < 32)) (o1592 : ob h 32 = some (.inr (14, [.ref 33, .ref 162, .ref 166, .int (0 : Int32), .int (0 : Int32), .int (0 : Int32), .ref 167, .ref 170, .ref 173, .ref 177, .ref 193, .ref 208, .ref 222, .ref 238, .ref 252, .ref 274, .ref 275, .ref 276, .int (0 : Int32)]))) : en_C l E M_X11_same 7 1 6 [.ref 32, .int a0, .int a1] h (pT "java/lang/IndexOutOfBoundsException" [] h (fun _ => True)) := by
  refine en_mk m_X11_same rfl hl (Nat.le_of_ble_eq_true rfl) ?_
  refine x_aload_n (M := M_X11_same) dX11_same_0 rfl ?_
  refine x_iload_n (M := M_X11_same) dX11_same_1 rfl ?_
  exact y_callVX (M := M_X11_same) (M' := M_X11_slotNumbered) rfl rfl dX11_same_2 m_X11_slotNumbered t_744 t_746 s_2 (q511 hl c0 c1) rfl rfl o1592 rfl (Nat.le_of_ble_eq_true rfl) (Nat.le_of_ble_eq_true rfl) (Nat.le_of_ble_eq_true rfl) (Nat.le_of_ble_eq_true rfl) (fun h1593 f1594 w1595 => ⟨rfl, (fr_tr f1594 (fun _ h => nomatch h) fr_rf), trivial⟩)
set_option maxRecDepth 10000 in
theorem q1601 {l : Launch} {E : EE} (hl : l.stackTraces = false) {h : HP} {a0 : Int32} {a1 : Int32} (c0 : ¬ (a0.toInt < 0)) (c1 : ¬ (a0.toInt < 32)) (o1597 : ob h 32 = some (.inr (14, [.ref 33, .ref 162, .ref 166, .int (0 : Int32), .int (0 : Int32), .int (0 : Int32), .ref 167, .ref 170, .ref 173, .ref 177, .ref 193, .ref 208, .ref 222, .ref 238, .ref 252, .ref 274, .ref 275, .ref 276, .int (0 : Int32)]))) : en_C l E M_L_same 8 1 6 [.ref 32, .int a0, .int a1, .ref 359] h (pF (some (.int (Int32.ofInt 1))) [] h (fun _ => True)) := by
  refine en_mkW m_L_same rfl hl (Nat.le_of_ble_eq_true rfl) ?_
  refine x_aload_n (M := M_L_same) dL_same_0 rfl ?_
  refine x_iconst (M := M_L_same) dL_same_1 ?_
  refine x_aload_n (M := M_L_same) dL_same_2 rfl ?_
  refine x_iload_n (M := M_L_same) dL_same_3 rfl ?_
  refine x_iload_n (M := M_L_same) dL_same_4 rfl ?_
  refine y_callVHX (M := M_L_same) (M' := M_X11_same) (i9 := 4) (nx := 22) rfl dL_same_5 m_X11_same t_1165 t_1166 t_1167 o1597 rfl (q1596 hl c0 c1 o1597) rfl rfl (Nat.le_of_ble_eq_true rfl) (Nat.le_of_ble_eq_true rfl) (Nat.le_of_ble_eq_true rfl) (Nat.le_of_ble_eq_true rfl) (en_hdm (k0 := 4) [] [] rfl (fun _ h => nomatch h) (by decide +kernel) (by decide) t_739 n_750 dL_same_20) (by decide) rfl (fun h1598 f1599 w1600 => ?_)
  refine x_iconst (M := M_L_same) dL_same_22 ?_
  exact x_iret (M := M_L_same) dL_same_23 rfl ⟨rfl, (fr_tr f1599 (fun _ h => nomatch h) fr_rf), trivial⟩ (Nat.le_of_ble_eq_true rfl) (Nat.le_of_ble_eq_true rfl)
set_option maxRecDepth 10000 in
theorem q1614 {l : Launch} {E : EE} (hl : l.stackTraces = false) {h : HP} {a0 : Int32} {a1 : Int32} {dg : Int32} (c0 : ¬ (a0.toInt < 0)) (c1 : ¬ (a0.toInt < 32)) (o1606 : ob h 277 = some (.inr (15, (RB dg)))) : en_C l E M_X12_same 1 0 0 [.ref 277, .int a0, .int a1] h (pF (some (.int (Int32.ofInt 0))) [277] h (fun h' => ob h' 277 = some (.inr (15, ((RB dg).set 0 (.int (Int32.ofInt 1))))) ∧ True)) := by
  refine en_mk m_X12_same rfl hl (Nat.le_of_ble_eq_true rfl) ?_
  refine x_aload_n (M := M_X12_same) dX12_same_0 rfl ?_
  refine x_iconst (M := M_X12_same) dX12_same_1 ?_
  refine y_put (M := M_X12_same) (ci := 15) (C := RX12) (T := TX12) (N := 135) (ty := tyX12) cl15 dX12_same_2 o1606 0 (by decide) t_2391 (Or.inl rfl) (Nat.le_of_ble_eq_true rfl) rfl (fun h1607 w1608 f1609 => ?_)
  refine x_aload_n (M := M_X12_same) dX12_same_5 rfl ?_
  refine x_iload_n (M := M_X12_same) dX12_same_6 rfl ?_
  refine x_callSR (M := M_X12_same) (M' := M_X12_isSlot) rfl rfl dX12_same_7 m_X12_isSlot t_2841 t_2842 (q530 hl c0 c1) rfl rfl (Nat.le_of_ble_eq_true rfl) (Nat.le_of_ble_eq_true rfl) (Nat.le_of_ble_eq_true rfl) (Nat.le_of_ble_eq_true rfl) ?_
  refine x_if_eq (M := M_X12_same) (tgt := 20) dX12_same_10 (by decide) (fun _ => ?_) (fun q => absurd q (by decide +kernel))
  refine x_iconst (M := M_X12_same) dX12_same_20 ?_
  refine x_goto (M := M_X12_same) (tgt := 25) dX12_same_21 (by decide) ?_
  refine x_iconst (M := M_X12_same) dX12_same_25 ?_
  refine y_callVR (M := M_X12_same) (M' := M_X12_fails) rfl rfl dX12_same_26 m_X12_fails t_2805 t_2807 s_157 (q22 hl w1608) rfl rfl w1608 rfl (Nat.le_of_ble_eq_true rfl) (Nat.le_of_ble_eq_true rfl) (Nat.le_of_ble_eq_true rfl) (Nat.le_of_ble_eq_true rfl) (fun h1610 f1611 w1612 => ?_)
  obtain ⟨o1613, -⟩ := w1612
  refine x_if_eq (M := M_X12_same) (tgt := 34) dX12_same_29 (by decide) (fun q => absurd q (by decide +kernel)) (fun _ => ?_)
  refine x_iconst (M := M_X12_same) dX12_same_32 ?_
  exact x_zret (M := M_X12_same) dX12_same_33 rfl (by decide) ⟨rfl, (fr_tr f1611 (by decide) (fr_tr f1609 (by decide) fr_rf)), ⟨o1613, trivial⟩⟩ (Nat.le_of_ble_eq_true rfl) (Nat.le_of_ble_eq_true rfl)
set_option maxRecDepth 10000 in
theorem lc11_4 {l : Launch} {E : EE} (hl : l.stackTraces = false) (nm : String) {xs : Nat → Int32} (hx : E.2.2.2.2 0 = some (7, xs)) {h : HP} {a0 : Int32} {a1 : Int32} {dg : Int32} (e2 : xs 2 = a0) (e3 : xs 3 = a1) (c0 : ¬ (a0.toInt < 0)) (c1 : ¬ (a0.toInt < 32)) (o1602 : ob h 32 = some (.inr (14, [.ref 33, .ref 162, .ref 166, .int (0 : Int32), .int (0 : Int32), .int (0 : Int32), .ref 167, .ref 170, .ref 173, .ref 177, .ref 193, .ref 208, .ref 222, .ref 238, .ref 252, .ref 274, .ref 275, .ref 276, .int (0 : Int32)]))) (o1615 : ob h 277 = some (.inr (15, (RB dg)))) : XX l E (M_law nm) 1312 342628 8074320 (fun o _ => o = .inl (some (.int 1))) 844 [some (.ref 0), some (.ref 32), some (.ref 277), some (.ref 359), some (.int (Int32.ofInt 1)), none, none, none] [] h 328 2463747 := by
  refine x_aload_n (M := (M_law nm)) dL_law_844 rfl ?_
  refine x_aload_n (M := (M_law nm)) dL_law_845 rfl ?_
  refine x_iload (M := (M_law nm)) dL_law_846 rfl ?_
  refine x_iconst (M := (M_law nm)) dL_law_848 ?_
  refine x_iadd (M := (M_law nm)) dL_law_849 ?_
  refine x_sald (M := (M_law nm)) dL_law_850 (by decide) hx (vp_inD (by decide +kernel)) ?_
  refine x_top (M := (M_law nm)) (y := a0) ((congrArg xs (by decide +kernel : ((Int32.ofInt 1) + (Int32.ofInt 1)).toNatClampNeg = 2)).trans e2) ?_
  refine x_aload_n (M := (M_law nm)) dL_law_851 rfl ?_
  refine x_iload (M := (M_law nm)) dL_law_852 rfl ?_
  refine x_iconst (M := (M_law nm)) dL_law_854 ?_
  refine x_iadd (M := (M_law nm)) dL_law_855 ?_
  refine x_sald (M := (M_law nm)) dL_law_856 (by decide) hx (vp_inD (by decide +kernel)) ?_
  refine x_top (M := (M_law nm)) (y := a1) ((congrArg xs (by decide +kernel : ((Int32.ofInt 1) + (Int32.ofInt 2)).toNatClampNeg = 3)).trans e3) ?_
  refine x_aload_n (M := (M_law nm)) dL_law_857 rfl ?_
  refine y_callSW (M := (M_law nm)) (M' := M_L_same) rfl rfl dL_law_858 m_L_same t_1162 t_1163 (q1601 hl c0 c1 o1602) rfl rfl (Nat.le_of_ble_eq_true rfl) (Nat.le_of_ble_eq_true rfl) (Nat.le_of_ble_eq_true rfl) (Nat.le_of_ble_eq_true rfl) (fun h1603 f1604 w1605 => ?_)
  refine x_istore (M := (M_law nm)) dL_law_861 (Nat.le_of_ble_eq_true rfl) rfl ?_
  refine x_aload_n (M := (M_law nm)) dL_law_863 rfl ?_
  refine x_aload_n (M := (M_law nm)) dL_law_864 rfl ?_
  refine x_iload (M := (M_law nm)) dL_law_865 rfl ?_
  refine x_iconst (M := (M_law nm)) dL_law_867 ?_
  refine x_iadd (M := (M_law nm)) dL_law_868 ?_
  refine x_sald (M := (M_law nm)) dL_law_869 (by decide) hx (vp_inD (by decide +kernel)) ?_
  refine x_top (M := (M_law nm)) (y := a0) ((congrArg xs (by decide +kernel : ((Int32.ofInt 1) + (Int32.ofInt 1)).toNatClampNeg = 2)).trans e2) ?_
  refine x_aload_n (M := (M_law nm)) dL_law_870 rfl ?_
  refine x_iload (M := (M_law nm)) dL_law_871 rfl ?_
  refine x_iconst (M := (M_law nm)) dL_law_873 ?_
  refine x_iadd (M := (M_law nm)) dL_law_874 ?_
  refine x_sald (M := (M_law nm)) dL_law_875 (by decide) hx (vp_inD (by decide +kernel)) ?_
  refine x_top (M := (M_law nm)) (y := a1) ((congrArg xs (by decide +kernel : ((Int32.ofInt 1) + (Int32.ofInt 2)).toNatClampNeg = 3)).trans e3) ?_
  have o1616 := (f1604 277 _ (by decide) o1615)
  refine y_callVR (M := (M_law nm)) (M' := M_X12_same) rfl rfl dL_law_876 m_X12_same t_3102 t_3103 t_3104 (q1614 hl c0 c1 o1616) rfl rfl o1616 rfl (Nat.le_of_ble_eq_true rfl) (Nat.le_of_ble_eq_true rfl) (Nat.le_of_ble_eq_true rfl) (Nat.le_of_ble_eq_true rfl) (fun h1617 f1618 w1619 => ?_)
  obtain ⟨o1620, -⟩ := w1619
  refine x_istore (M := (M_law nm)) dL_law_879 (Nat.le_of_ble_eq_true rfl) rfl ?_
  refine x_aload_n (M := (M_law nm)) dL_law_881 rfl ?_
  refine x_callVR (M := (M_law nm)) (M' := M_X12_thrown) rfl rfl dL_law_882 m_X12_thrown t_2797 t_2798 t_2799 (q35 hl o1620) rfl rfl o1620 rfl (Nat.le_of_ble_eq_true rfl) (Nat.le_of_ble_eq_true rfl) (Nat.le_of_ble_eq_true rfl) (Nat.le_of_ble_eq_true rfl) ?_
  refine x_iload (M := (M_law nm)) dL_law_885 rfl ?_
  refine x_icmp_eq (M := (M_law nm)) (tgt := 892) dL_law_887 (by decide) (fun _ => ?_) (fun q => absurd q (by decide +kernel))
  refine x_iload (M := (M_law nm)) dL_law_892 rfl ?_
  refine x_if_ne (M := (M_law nm)) (tgt := 916) dL_law_894 (by decide) (fun _ => ?_) (fun q => absurd q (by decide +kernel))
  refine x_goto (M := (M_law nm)) (tgt := 2449) dL_law_916 (by decide) ?_
  refine x_iinc (M := (M_law nm)) dL_law_2449 rfl (Nat.le_of_ble_eq_true rfl) rfl ?_
  refine x_lvs (M := (M_law nm)) (lv' := [some (.ref 0), some (.ref 32), some (.ref 277), some (.ref 359), some (.int (Int32.ofInt 7)), some (.int (Int32.ofInt 1)), some (.int (Int32.ofInt 0)), none]) (by rw [(by decide +kernel : (Int32.ofInt 1) + Int32.ofInt 6 = (Int32.ofInt 7))] <;> rfl) ?_
  refine x_goto (M := (M_law nm)) (tgt := 33) dL_law_2452 (by decide) ?_
  refine x_iload (M := (M_law nm)) dL_law_33 rfl ?_
  refine x_aload_n (M := (M_law nm)) dL_law_35 rfl ?_
  refine x_slen (M := (M_law nm)) dL_law_36 (by decide) hx ?_
  refine x_bipush (M := (M_law nm)) dL_law_37 ?_
  refine x_isub (M := (M_law nm)) dL_law_39 ?_
  refine x_icmp_gt (M := (M_law nm)) (tgt := 2455) dL_law_40 (by decide) (fun _ => ?_) (fun q => absurd q (by decide +kernel))
  refine x_iconst (M := (M_law nm)) dL_law_2455 ?_
  exact x_zret (M := (M_law nm)) dL_law_2456 rfl (by decide) rfl (Nat.le_of_ble_eq_true rfl) (Nat.le_of_ble_eq_true rfl)
theorem lop11 {l : Launch} {E : EE} (hl : l.stackTraces = false) (nm : String) {xs : Nat → Int32} (hx : E.2.2.2.2 0 = some (7, xs)) (dg : Int32) : XX l E (M_law nm) 1312 342628 8074320 (fun o _ => o = .inl (some (.int 1))) 844 [some (.ref 0), some (.ref 32), some (.ref 277), some (.ref 359), some (.int (Int32.ofInt 1)), none, none, none] [] (HH dg) 328 2463747 := by
  obtain ⟨a0, e2⟩ : ∃ a : Int32, xs 2 = a := ⟨_, rfl⟩
  obtain ⟨a1, e3⟩ : ∃ a : Int32, xs 3 = a := ⟨_, rfl⟩
  obtain ⟨a2, e4⟩ : ∃ a : Int32, xs 4 = a := ⟨_, rfl⟩
  obtain ⟨a3, e5⟩ : ∃ a : Int32, xs 5 = a := ⟨_, rfl⟩
  obtain ⟨a4, e6⟩ : ∃ a : Int32, xs 6 = a := ⟨_, rfl⟩
  by_cases c0 : a0.toInt < 0
  · exact lc11_0 hl nm hx e2 e3 c0 (o_32 dg) (o_277b dg)
  · by_cases c1 : a0.toInt < 32
    · by_cases c2 : a1.toInt < 0
      · exact lc11_1 hl nm hx e2 e3 c0 c1 c2 (o_32 dg) (o_33 dg) (o_277b dg)
      · by_cases c3 : a1.toInt < 32
        · have n_a0 : a0.toNatClampNeg < 32 := nc_lt (by omega) (by decide)
          have n_a1 : a1.toNatClampNeg < 32 := nc_lt (by omega) (by decide)
          exact lc11_2 hl nm hx e2 e3 c0 c1 c2 c3 (o_32 dg) (o_33 dg) (o_sh dg a0.toNatClampNeg n_a0) (o_sh dg a1.toNatClampNeg n_a1) (o_359 dg) (o_277b dg) (oMR (dg := dg) (k := 2) rfl) (oMR (dg := dg) (k := 4) rfl)
        · exact lc11_3 hl nm hx e2 e3 c0 c1 c2 c3 (o_32 dg) (o_33 dg) (o_277b dg)
    · exact lc11_4 hl nm hx e2 e3 c0 c1 (o_32 dg) (o_277b dg)
set_option maxRecDepth 10000 in
theorem q1625 {l : Launch} {E : EE} (hl : l.stackTraces = false) {h : HP} {a0 : Int32} {a1 : Int32} (c0 : a0.toInt < 0) (o1621 : ob h 32 = some (.inr (14, [.ref 33, .ref 162, .ref 166, .int (0 : Int32), .int (0 : Int32), .int (0 : Int32), .ref 167, .ref 170, .ref 173, .ref 177, .ref 193, .ref 208, .ref 222, .ref 238, .ref 252, .ref 274, .ref 275, .ref 276, .int (0 : Int32)]))) : en_C l E M_X11_copy 7 1 6 [.ref 32, .int a0, .int a1] h (pT "java/lang/IndexOutOfBoundsException" [] h (fun _ => True)) := by
  refine en_mk m_X11_copy rfl hl (Nat.le_of_ble_eq_true rfl) ?_
  refine x_aload_n (M := M_X11_copy) dX11_copy_0 rfl ?_
  refine x_iload_n (M := M_X11_copy) dX11_copy_1 rfl ?_
  exact y_callVX (M := M_X11_copy) (M' := M_X11_slotNumbered) rfl rfl dX11_copy_2 m_X11_slotNumbered t_744 t_746 s_2 (q392 hl c0) rfl rfl o1621 rfl (Nat.le_of_ble_eq_true rfl) (Nat.le_of_ble_eq_true rfl) (Nat.le_of_ble_eq_true rfl) (Nat.le_of_ble_eq_true rfl) (fun h1622 f1623 w1624 => ⟨rfl, (fr_tr f1623 (fun _ h => nomatch h) fr_rf), trivial⟩)
set_option maxRecDepth 10000 in
theorem q1630 {l : Launch} {E : EE} (hl : l.stackTraces = false) {h : HP} {a0 : Int32} {a1 : Int32} (c0 : a0.toInt < 0) (o1626 : ob h 32 = some (.inr (14, [.ref 33, .ref 162, .ref 166, .int (0 : Int32), .int (0 : Int32), .int (0 : Int32), .ref 167, .ref 170, .ref 173, .ref 177, .ref 193, .ref 208, .ref 222, .ref 238, .ref 252, .ref 274, .ref 275, .ref 276, .int (0 : Int32)]))) : en_C l E M_L_copy 8 1 6 [.ref 32, .int a0, .int a1, .ref 359] h (pF (some (.int (Int32.ofInt 1))) [] h (fun _ => True)) := by
  refine en_mkW m_L_copy rfl hl (Nat.le_of_ble_eq_true rfl) ?_
  refine x_aload_n (M := M_L_copy) dL_copy_0 rfl ?_
  refine x_iconst (M := M_L_copy) dL_copy_1 ?_
  refine x_aload_n (M := M_L_copy) dL_copy_2 rfl ?_
  refine x_iload_n (M := M_L_copy) dL_copy_3 rfl ?_
  refine x_iload_n (M := M_L_copy) dL_copy_4 rfl ?_
  refine y_callVHX (M := M_L_copy) (M' := M_X11_copy) (i9 := 4) (nx := 15) rfl dL_copy_5 m_X11_copy t_1146 t_1147 t_1148 o1626 rfl (q1625 hl c0 o1626) rfl rfl (Nat.le_of_ble_eq_true rfl) (Nat.le_of_ble_eq_true rfl) (Nat.le_of_ble_eq_true rfl) (Nat.le_of_ble_eq_true rfl) (en_hdm (k0 := 4) [] [(0, 10, 17, 13)] rfl (fun _ h => nomatch h) (by decide +kernel) (by decide) t_739 n_750 dL_copy_13) (by decide) rfl (fun h1627 f1628 w1629 => ?_)
  refine x_iconst (M := M_L_copy) dL_copy_15 ?_
  exact x_iret (M := M_L_copy) dL_copy_16 rfl ⟨rfl, (fr_tr f1628 (fun _ h => nomatch h) fr_rf), trivial⟩ (Nat.le_of_ble_eq_true rfl) (Nat.le_of_ble_eq_true rfl)
set_option maxRecDepth 10000 in
theorem q1643 {l : Launch} {E : EE} (hl : l.stackTraces = false) {h : HP} {a0 : Int32} {a1 : Int32} {dg : Int32} (c0 : a0.toInt < 0) (o1635 : ob h 277 = some (.inr (15, (RB dg)))) : en_C l E M_X12_copy 1 0 0 [.ref 277, .int a0, .int a1] h (pF (some (.int (Int32.ofInt 0))) [277] h (fun h' => ob h' 277 = some (.inr (15, ((RB dg).set 0 (.int (Int32.ofInt 1))))) ∧ True)) := by
  refine en_mk m_X12_copy rfl hl (Nat.le_of_ble_eq_true rfl) ?_
  refine x_aload_n (M := M_X12_copy) dX12_copy_0 rfl ?_
  refine x_iconst (M := M_X12_copy) dX12_copy_1 ?_
  refine y_put (M := M_X12_copy) (ci := 15) (C := RX12) (T := TX12) (N := 135) (ty := tyX12) cl15 dX12_copy_2 o1635 0 (by decide) t_2391 (Or.inl rfl) (Nat.le_of_ble_eq_true rfl) rfl (fun h1636 w1637 f1638 => ?_)
  refine x_aload_n (M := M_X12_copy) dX12_copy_5 rfl ?_
  refine x_iload_n (M := M_X12_copy) dX12_copy_6 rfl ?_
  refine x_callSR (M := M_X12_copy) (M' := M_X12_isSlot) rfl rfl dX12_copy_7 m_X12_isSlot t_2841 t_2842 (q411 hl c0) rfl rfl (Nat.le_of_ble_eq_true rfl) (Nat.le_of_ble_eq_true rfl) (Nat.le_of_ble_eq_true rfl) (Nat.le_of_ble_eq_true rfl) ?_
  refine x_if_eq (M := M_X12_copy) (tgt := 20) dX12_copy_10 (by decide) (fun _ => ?_) (fun q => absurd q (by decide +kernel))
  refine x_iconst (M := M_X12_copy) dX12_copy_20 ?_
  refine x_goto (M := M_X12_copy) (tgt := 25) dX12_copy_21 (by decide) ?_
  refine x_iconst (M := M_X12_copy) dX12_copy_25 ?_
  refine y_callVR (M := M_X12_copy) (M' := M_X12_fails) rfl rfl dX12_copy_26 m_X12_fails t_2805 t_2807 s_157 (q22 hl w1637) rfl rfl w1637 rfl (Nat.le_of_ble_eq_true rfl) (Nat.le_of_ble_eq_true rfl) (Nat.le_of_ble_eq_true rfl) (Nat.le_of_ble_eq_true rfl) (fun h1639 f1640 w1641 => ?_)
  obtain ⟨o1642, -⟩ := w1641
  refine x_if_ne (M := M_X12_copy) (tgt := 53) dX12_copy_29 (by decide) (fun _ => ?_) (fun q => absurd q (by decide +kernel))
  refine x_iconst (M := M_X12_copy) dX12_copy_53 ?_
  exact x_iret (M := M_X12_copy) dX12_copy_54 rfl ⟨rfl, (fr_tr f1640 (by decide) (fr_tr f1638 (by decide) fr_rf)), ⟨o1642, trivial⟩⟩ (Nat.le_of_ble_eq_true rfl) (Nat.le_of_ble_eq_true rfl)
set_option maxRecDepth 10000 in
theorem lc9_0 {l : Launch} {E : EE} (hl : l.stackTraces = false) (nm : String) {xs : Nat → Int32} (hx : E.2.2.2.2 0 = some (7, xs)) {h : HP} {a0 : Int32} {a1 : Int32} {dg : Int32} (e2 : xs 2 = a0) (e3 : xs 3 = a1) (c0 : a0.toInt < 0) (o1631 : ob h 32 = some (.inr (14, [.ref 33, .ref 162, .ref 166, .int (0 : Int32), .int (0 : Int32), .int (0 : Int32), .ref 167, .ref 170, .ref 173, .ref 177, .ref 193, .ref 208, .ref 222, .ref 238, .ref 252, .ref 274, .ref 275, .ref 276, .int (0 : Int32)]))) (o1644 : ob h 277 = some (.inr (15, (RB dg)))) : XX l E (M_law nm) 1312 342628 8074320 (fun o _ => o = .inl (some (.int 1))) 713 [some (.ref 0), some (.ref 32), some (.ref 277), some (.ref 359), some (.int (Int32.ofInt 1)), none, none, none] [] h 328 2463747 := by
  refine x_aload_n (M := (M_law nm)) dL_law_713 rfl ?_
  refine x_aload_n (M := (M_law nm)) dL_law_714 rfl ?_
  refine x_iload (M := (M_law nm)) dL_law_715 rfl ?_
  refine x_iconst (M := (M_law nm)) dL_law_717 ?_
  refine x_iadd (M := (M_law nm)) dL_law_718 ?_
  refine x_sald (M := (M_law nm)) dL_law_719 (by decide) hx (vp_inD (by decide +kernel)) ?_
  refine x_top (M := (M_law nm)) (y := a0) ((congrArg xs (by decide +kernel : ((Int32.ofInt 1) + (Int32.ofInt 1)).toNatClampNeg = 2)).trans e2) ?_
  refine x_aload_n (M := (M_law nm)) dL_law_720 rfl ?_
  refine x_iload (M := (M_law nm)) dL_law_721 rfl ?_
  refine x_iconst (M := (M_law nm)) dL_law_723 ?_
  refine x_iadd (M := (M_law nm)) dL_law_724 ?_
  refine x_sald (M := (M_law nm)) dL_law_725 (by decide) hx (vp_inD (by decide +kernel)) ?_
  refine x_top (M := (M_law nm)) (y := a1) ((congrArg xs (by decide +kernel : ((Int32.ofInt 1) + (Int32.ofInt 2)).toNatClampNeg = 3)).trans e3) ?_
  refine x_aload_n (M := (M_law nm)) dL_law_726 rfl ?_
  refine y_callSW (M := (M_law nm)) (M' := M_L_copy) rfl rfl dL_law_727 m_L_copy t_1143 t_1144 (q1630 hl c0 o1631) rfl rfl (Nat.le_of_ble_eq_true rfl) (Nat.le_of_ble_eq_true rfl) (Nat.le_of_ble_eq_true rfl) (Nat.le_of_ble_eq_true rfl) (fun h1632 f1633 w1634 => ?_)
  refine x_istore (M := (M_law nm)) dL_law_730 (Nat.le_of_ble_eq_true rfl) rfl ?_
  refine x_aload_n (M := (M_law nm)) dL_law_732 rfl ?_
  refine x_aload_n (M := (M_law nm)) dL_law_733 rfl ?_
  refine x_iload (M := (M_law nm)) dL_law_734 rfl ?_
  refine x_iconst (M := (M_law nm)) dL_law_736 ?_
  refine x_iadd (M := (M_law nm)) dL_law_737 ?_
  refine x_sald (M := (M_law nm)) dL_law_738 (by decide) hx (vp_inD (by decide +kernel)) ?_
  refine x_top (M := (M_law nm)) (y := a0) ((congrArg xs (by decide +kernel : ((Int32.ofInt 1) + (Int32.ofInt 1)).toNatClampNeg = 2)).trans e2) ?_
  refine x_aload_n (M := (M_law nm)) dL_law_739 rfl ?_
  refine x_iload (M := (M_law nm)) dL_law_740 rfl ?_
  refine x_iconst (M := (M_law nm)) dL_law_742 ?_
  refine x_iadd (M := (M_law nm)) dL_law_743 ?_
  refine x_sald (M := (M_law nm)) dL_law_744 (by decide) hx (vp_inD (by decide +kernel)) ?_
  refine x_top (M := (M_law nm)) (y := a1) ((congrArg xs (by decide +kernel : ((Int32.ofInt 1) + (Int32.ofInt 2)).toNatClampNeg = 3)).trans e3) ?_
  have o1645 := (f1633 277 _ (by decide) o1644)
  refine y_callVR (M := (M_law nm)) (M' := M_X12_copy) rfl rfl dL_law_745 m_X12_copy t_3094 t_3095 t_3096 (q1643 hl c0 o1645) rfl rfl o1645 rfl (Nat.le_of_ble_eq_true rfl) (Nat.le_of_ble_eq_true rfl) (Nat.le_of_ble_eq_true rfl) (Nat.le_of_ble_eq_true rfl) (fun h1646 f1647 w1648 => ?_)
  obtain ⟨o1649, -⟩ := w1648
  refine x_istore (M := (M_law nm)) dL_law_748 (Nat.le_of_ble_eq_true rfl) rfl ?_
  refine x_aload_n (M := (M_law nm)) dL_law_750 rfl ?_
  refine x_callVR (M := (M_law nm)) (M' := M_X12_thrown) rfl rfl dL_law_751 m_X12_thrown t_2797 t_2798 t_2799 (q35 hl o1649) rfl rfl o1649 rfl (Nat.le_of_ble_eq_true rfl) (Nat.le_of_ble_eq_true rfl) (Nat.le_of_ble_eq_true rfl) (Nat.le_of_ble_eq_true rfl) ?_
  refine x_iload (M := (M_law nm)) dL_law_754 rfl ?_
  refine x_icmp_eq (M := (M_law nm)) (tgt := 761) dL_law_756 (by decide) (fun _ => ?_) (fun q => absurd q (by decide +kernel))
  refine x_iload (M := (M_law nm)) dL_law_761 rfl ?_
  refine x_if_ne (M := (M_law nm)) (tgt := 778) dL_law_763 (by decide) (fun _ => ?_) (fun q => absurd q (by decide +kernel))
  refine x_goto (M := (M_law nm)) (tgt := 2449) dL_law_778 (by decide) ?_
  refine x_iinc (M := (M_law nm)) dL_law_2449 rfl (Nat.le_of_ble_eq_true rfl) rfl ?_
  refine x_lvs (M := (M_law nm)) (lv' := [some (.ref 0), some (.ref 32), some (.ref 277), some (.ref 359), some (.int (Int32.ofInt 7)), some (.int (Int32.ofInt 1)), some (.int (Int32.ofInt 0)), none]) (by rw [(by decide +kernel : (Int32.ofInt 1) + Int32.ofInt 6 = (Int32.ofInt 7))] <;> rfl) ?_
  refine x_goto (M := (M_law nm)) (tgt := 33) dL_law_2452 (by decide) ?_
  refine x_iload (M := (M_law nm)) dL_law_33 rfl ?_
  refine x_aload_n (M := (M_law nm)) dL_law_35 rfl ?_
  refine x_slen (M := (M_law nm)) dL_law_36 (by decide) hx ?_
  refine x_bipush (M := (M_law nm)) dL_law_37 ?_
  refine x_isub (M := (M_law nm)) dL_law_39 ?_
  refine x_icmp_gt (M := (M_law nm)) (tgt := 2455) dL_law_40 (by decide) (fun _ => ?_) (fun q => absurd q (by decide +kernel))
  refine x_iconst (M := (M_law nm)) dL_law_2455 ?_
  exact x_zret (M := (M_law nm)) dL_law_2456 rfl (by decide) rfl (Nat.le_of_ble_eq_true rfl) (Nat.le_of_ble_eq_true rfl)
set_option maxRecDepth 10000 in
theorem q1657 {l : Launch} {E : EE} (hl : l.stackTraces = false) {h : HP} {a0 : Int32} {a1 : Int32} (c0 : ¬ (a0.toInt < 0)) (c1 : a0.toInt < 32) (c2 : a1.toInt < 0) (o1652 : ob h 32 = some (.inr (14, [.ref 33, .ref 162, .ref 166, .int (0 : Int32), .int (0 : Int32), .int (0 : Int32), .ref 167, .ref 170, .ref 173, .ref 177, .ref 193, .ref 208, .ref 222, .ref 238, .ref 252, .ref 274, .ref 275, .ref 276, .int (0 : Int32)]))) (o1653 : ob h 33 = some (.inl (4, 32, .inr (.inr (.inr (.inr (shf 1 32))))))) : en_C l E M_X11_copy 7 1 6 [.ref 32, .int a0, .int a1] h (pT "java/lang/IndexOutOfBoundsException" [] h (fun _ => True)) := by
  refine en_mk m_X11_copy rfl hl (Nat.le_of_ble_eq_true rfl) ?_
  refine x_aload_n (M := M_X11_copy) dX11_copy_0 rfl ?_
  refine x_iload_n (M := M_X11_copy) dX11_copy_1 rfl ?_
  refine x_callVR (M := M_X11_copy) (M' := M_X11_slotNumbered) rfl rfl dX11_copy_2 m_X11_slotNumbered t_744 t_746 s_2 (q425 hl c0 c1 o1652 o1653) rfl rfl o1652 rfl (Nat.le_of_ble_eq_true rfl) (Nat.le_of_ble_eq_true rfl) (Nat.le_of_ble_eq_true rfl) (Nat.le_of_ble_eq_true rfl) ?_
  refine x_astore_n (M := M_X11_copy) dX11_copy_5 (Nat.le_of_ble_eq_true rfl) rfl ?_
  refine x_aload_n (M := M_X11_copy) dX11_copy_6 rfl ?_
  refine x_iload_n (M := M_X11_copy) dX11_copy_7 rfl ?_
  exact y_callVX (M := M_X11_copy) (M' := M_X11_slotNumbered) rfl rfl dX11_copy_8 m_X11_slotNumbered t_744 t_746 s_2 (q1465 hl c2) rfl rfl o1652 rfl (Nat.le_of_ble_eq_true rfl) (Nat.le_of_ble_eq_true rfl) (Nat.le_of_ble_eq_true rfl) (Nat.le_of_ble_eq_true rfl) (fun h1654 f1655 w1656 => ⟨rfl, (fr_tr f1655 (fun _ h => nomatch h) fr_rf), trivial⟩)
set_option maxRecDepth 10000 in
theorem q1663 {l : Launch} {E : EE} (hl : l.stackTraces = false) {h : HP} {a0 : Int32} {a1 : Int32} (c0 : ¬ (a0.toInt < 0)) (c1 : a0.toInt < 32) (c2 : a1.toInt < 0) (o1658 : ob h 32 = some (.inr (14, [.ref 33, .ref 162, .ref 166, .int (0 : Int32), .int (0 : Int32), .int (0 : Int32), .ref 167, .ref 170, .ref 173, .ref 177, .ref 193, .ref 208, .ref 222, .ref 238, .ref 252, .ref 274, .ref 275, .ref 276, .int (0 : Int32)]))) (o1659 : ob h 33 = some (.inl (4, 32, .inr (.inr (.inr (.inr (shf 1 32))))))) : en_C l E M_L_copy 8 1 6 [.ref 32, .int a0, .int a1, .ref 359] h (pF (some (.int (Int32.ofInt 1))) [] h (fun _ => True)) := by
  refine en_mkW m_L_copy rfl hl (Nat.le_of_ble_eq_true rfl) ?_
  refine x_aload_n (M := M_L_copy) dL_copy_0 rfl ?_
  refine x_iconst (M := M_L_copy) dL_copy_1 ?_
  refine x_aload_n (M := M_L_copy) dL_copy_2 rfl ?_
  refine x_iload_n (M := M_L_copy) dL_copy_3 rfl ?_
  refine x_iload_n (M := M_L_copy) dL_copy_4 rfl ?_
  refine y_callVHX (M := M_L_copy) (M' := M_X11_copy) (i9 := 4) (nx := 15) rfl dL_copy_5 m_X11_copy t_1146 t_1147 t_1148 o1658 rfl (q1657 hl c0 c1 c2 o1658 o1659) rfl rfl (Nat.le_of_ble_eq_true rfl) (Nat.le_of_ble_eq_true rfl) (Nat.le_of_ble_eq_true rfl) (Nat.le_of_ble_eq_true rfl) (en_hdm (k0 := 4) [] [(0, 10, 17, 13)] rfl (fun _ h => nomatch h) (by decide +kernel) (by decide) t_739 n_750 dL_copy_13) (by decide) rfl (fun h1660 f1661 w1662 => ?_)
  refine x_iconst (M := M_L_copy) dL_copy_15 ?_
  exact x_iret (M := M_L_copy) dL_copy_16 rfl ⟨rfl, (fr_tr f1661 (fun _ h => nomatch h) fr_rf), trivial⟩ (Nat.le_of_ble_eq_true rfl) (Nat.le_of_ble_eq_true rfl)
set_option maxRecDepth 10000 in
theorem q1677 {l : Launch} {E : EE} (hl : l.stackTraces = false) {h : HP} {a0 : Int32} {a1 : Int32} {dg : Int32} (c0 : ¬ (a0.toInt < 0)) (c1 : a0.toInt < 32) (c2 : a1.toInt < 0) (o1669 : ob h 277 = some (.inr (15, (RB dg)))) : en_C l E M_X12_copy 1 0 0 [.ref 277, .int a0, .int a1] h (pF (some (.int (Int32.ofInt 0))) [277] h (fun h' => ob h' 277 = some (.inr (15, ((RB dg).set 0 (.int (Int32.ofInt 1))))) ∧ True)) := by
  refine en_mk m_X12_copy rfl hl (Nat.le_of_ble_eq_true rfl) ?_
  refine x_aload_n (M := M_X12_copy) dX12_copy_0 rfl ?_
  refine x_iconst (M := M_X12_copy) dX12_copy_1 ?_
  refine y_put (M := M_X12_copy) (ci := 15) (C := RX12) (T := TX12) (N := 135) (ty := tyX12) cl15 dX12_copy_2 o1669 0 (by decide) t_2391 (Or.inl rfl) (Nat.le_of_ble_eq_true rfl) rfl (fun h1670 w1671 f1672 => ?_)
  refine x_aload_n (M := M_X12_copy) dX12_copy_5 rfl ?_
  refine x_iload_n (M := M_X12_copy) dX12_copy_6 rfl ?_
  refine x_callSR (M := M_X12_copy) (M' := M_X12_isSlot) rfl rfl dX12_copy_7 m_X12_isSlot t_2841 t_2842 (q447 hl c0 c1) rfl rfl (Nat.le_of_ble_eq_true rfl) (Nat.le_of_ble_eq_true rfl) (Nat.le_of_ble_eq_true rfl) (Nat.le_of_ble_eq_true rfl) ?_
  refine x_if_eq (M := M_X12_copy) (tgt := 20) dX12_copy_10 (by decide) (fun q => absurd q (by decide +kernel)) (fun _ => ?_)
  refine x_iload_n (M := M_X12_copy) dX12_copy_13 rfl ?_
  refine x_callSR (M := M_X12_copy) (M' := M_X12_isSlot) rfl rfl dX12_copy_14 m_X12_isSlot t_2841 t_2842 (q1485 hl c2) rfl rfl (Nat.le_of_ble_eq_true rfl) (Nat.le_of_ble_eq_true rfl) (Nat.le_of_ble_eq_true rfl) (Nat.le_of_ble_eq_true rfl) ?_
  refine x_if_ne (M := M_X12_copy) (tgt := 24) dX12_copy_17 (by decide) (fun q => absurd q (by decide +kernel)) (fun _ => ?_)
  refine x_iconst (M := M_X12_copy) dX12_copy_20 ?_
  refine x_goto (M := M_X12_copy) (tgt := 25) dX12_copy_21 (by decide) ?_
  refine x_iconst (M := M_X12_copy) dX12_copy_25 ?_
  refine y_callVR (M := M_X12_copy) (M' := M_X12_fails) rfl rfl dX12_copy_26 m_X12_fails t_2805 t_2807 s_157 (q22 hl w1671) rfl rfl w1671 rfl (Nat.le_of_ble_eq_true rfl) (Nat.le_of_ble_eq_true rfl) (Nat.le_of_ble_eq_true rfl) (Nat.le_of_ble_eq_true rfl) (fun h1673 f1674 w1675 => ?_)
  obtain ⟨o1676, -⟩ := w1675
  refine x_if_ne (M := M_X12_copy) (tgt := 53) dX12_copy_29 (by decide) (fun _ => ?_) (fun q => absurd q (by decide +kernel))
  refine x_iconst (M := M_X12_copy) dX12_copy_53 ?_
  exact x_iret (M := M_X12_copy) dX12_copy_54 rfl ⟨rfl, (fr_tr f1674 (by decide) (fr_tr f1672 (by decide) fr_rf)), ⟨o1676, trivial⟩⟩ (Nat.le_of_ble_eq_true rfl) (Nat.le_of_ble_eq_true rfl)
set_option maxRecDepth 10000 in
theorem lc9_1 {l : Launch} {E : EE} (hl : l.stackTraces = false) (nm : String) {xs : Nat → Int32} (hx : E.2.2.2.2 0 = some (7, xs)) {h : HP} {a0 : Int32} {a1 : Int32} {dg : Int32} (e2 : xs 2 = a0) (e3 : xs 3 = a1) (c0 : ¬ (a0.toInt < 0)) (c1 : a0.toInt < 32) (c2 : a1.toInt < 0) (o1664 : ob h 32 = some (.inr (14, [.ref 33, .ref 162, .ref 166, .int (0 : Int32), .int (0 : Int32), .int (0 : Int32), .ref 167, .ref 170, .ref 173, .ref 177, .ref 193, .ref 208, .ref 222, .ref 238, .ref 252, .ref 274, .ref 275, .ref 276, .int (0 : Int32)]))) (o1665 : ob h 33 = some (.inl (4, 32, .inr (.inr (.inr (.inr (shf 1 32))))))) (o1678 : ob h 277 = some (.inr (15, (RB dg)))) : XX l E (M_law nm) 1312 342628 8074320 (fun o _ => o = .inl (some (.int 1))) 713 [some (.ref 0), some (.ref 32), some (.ref 277), some (.ref 359), some (.int (Int32.ofInt 1)), none, none, none] [] h 328 2463747 := by
  refine x_aload_n (M := (M_law nm)) dL_law_713 rfl ?_
  refine x_aload_n (M := (M_law nm)) dL_law_714 rfl ?_
  refine x_iload (M := (M_law nm)) dL_law_715 rfl ?_
  refine x_iconst (M := (M_law nm)) dL_law_717 ?_
  refine x_iadd (M := (M_law nm)) dL_law_718 ?_
  refine x_sald (M := (M_law nm)) dL_law_719 (by decide) hx (vp_inD (by decide +kernel)) ?_
  refine x_top (M := (M_law nm)) (y := a0) ((congrArg xs (by decide +kernel : ((Int32.ofInt 1) + (Int32.ofInt 1)).toNatClampNeg = 2)).trans e2) ?_
  refine x_aload_n (M := (M_law nm)) dL_law_720 rfl ?_
  refine x_iload (M := (M_law nm)) dL_law_721 rfl ?_
  refine x_iconst (M := (M_law nm)) dL_law_723 ?_
  refine x_iadd (M := (M_law nm)) dL_law_724 ?_
  refine x_sald (M := (M_law nm)) dL_law_725 (by decide) hx (vp_inD (by decide +kernel)) ?_
  refine x_top (M := (M_law nm)) (y := a1) ((congrArg xs (by decide +kernel : ((Int32.ofInt 1) + (Int32.ofInt 2)).toNatClampNeg = 3)).trans e3) ?_
  refine x_aload_n (M := (M_law nm)) dL_law_726 rfl ?_
  refine y_callSW (M := (M_law nm)) (M' := M_L_copy) rfl rfl dL_law_727 m_L_copy t_1143 t_1144 (q1663 hl c0 c1 c2 o1664 o1665) rfl rfl (Nat.le_of_ble_eq_true rfl) (Nat.le_of_ble_eq_true rfl) (Nat.le_of_ble_eq_true rfl) (Nat.le_of_ble_eq_true rfl) (fun h1666 f1667 w1668 => ?_)
  refine x_istore (M := (M_law nm)) dL_law_730 (Nat.le_of_ble_eq_true rfl) rfl ?_
  refine x_aload_n (M := (M_law nm)) dL_law_732 rfl ?_
  refine x_aload_n (M := (M_law nm)) dL_law_733 rfl ?_
  refine x_iload (M := (M_law nm)) dL_law_734 rfl ?_
  refine x_iconst (M := (M_law nm)) dL_law_736 ?_
  refine x_iadd (M := (M_law nm)) dL_law_737 ?_
  refine x_sald (M := (M_law nm)) dL_law_738 (by decide) hx (vp_inD (by decide +kernel)) ?_
  refine x_top (M := (M_law nm)) (y := a0) ((congrArg xs (by decide +kernel : ((Int32.ofInt 1) + (Int32.ofInt 1)).toNatClampNeg = 2)).trans e2) ?_
  refine x_aload_n (M := (M_law nm)) dL_law_739 rfl ?_
  refine x_iload (M := (M_law nm)) dL_law_740 rfl ?_
  refine x_iconst (M := (M_law nm)) dL_law_742 ?_
  refine x_iadd (M := (M_law nm)) dL_law_743 ?_
  refine x_sald (M := (M_law nm)) dL_law_744 (by decide) hx (vp_inD (by decide +kernel)) ?_
  refine x_top (M := (M_law nm)) (y := a1) ((congrArg xs (by decide +kernel : ((Int32.ofInt 1) + (Int32.ofInt 2)).toNatClampNeg = 3)).trans e3) ?_
  have o1679 := (f1667 277 _ (by decide) o1678)
  refine y_callVR (M := (M_law nm)) (M' := M_X12_copy) rfl rfl dL_law_745 m_X12_copy t_3094 t_3095 t_3096 (q1677 hl c0 c1 c2 o1679) rfl rfl o1679 rfl (Nat.le_of_ble_eq_true rfl) (Nat.le_of_ble_eq_true rfl) (Nat.le_of_ble_eq_true rfl) (Nat.le_of_ble_eq_true rfl) (fun h1680 f1681 w1682 => ?_)
  obtain ⟨o1683, -⟩ := w1682
  refine x_istore (M := (M_law nm)) dL_law_748 (Nat.le_of_ble_eq_true rfl) rfl ?_
  refine x_aload_n (M := (M_law nm)) dL_law_750 rfl ?_
  refine x_callVR (M := (M_law nm)) (M' := M_X12_thrown) rfl rfl dL_law_751 m_X12_thrown t_2797 t_2798 t_2799 (q35 hl o1683) rfl rfl o1683 rfl (Nat.le_of_ble_eq_true rfl) (Nat.le_of_ble_eq_true rfl) (Nat.le_of_ble_eq_true rfl) (Nat.le_of_ble_eq_true rfl) ?_
  refine x_iload (M := (M_law nm)) dL_law_754 rfl ?_
  refine x_icmp_eq (M := (M_law nm)) (tgt := 761) dL_law_756 (by decide) (fun _ => ?_) (fun q => absurd q (by decide +kernel))
  refine x_iload (M := (M_law nm)) dL_law_761 rfl ?_
  refine x_if_ne (M := (M_law nm)) (tgt := 778) dL_law_763 (by decide) (fun _ => ?_) (fun q => absurd q (by decide +kernel))
  refine x_goto (M := (M_law nm)) (tgt := 2449) dL_law_778 (by decide) ?_
  refine x_iinc (M := (M_law nm)) dL_law_2449 rfl (Nat.le_of_ble_eq_true rfl) rfl ?_
  refine x_lvs (M := (M_law nm)) (lv' := [some (.ref 0), some (.ref 32), some (.ref 277), some (.ref 359), some (.int (Int32.ofInt 7)), some (.int (Int32.ofInt 1)), some (.int (Int32.ofInt 0)), none]) (by rw [(by decide +kernel : (Int32.ofInt 1) + Int32.ofInt 6 = (Int32.ofInt 7))] <;> rfl) ?_
  refine x_goto (M := (M_law nm)) (tgt := 33) dL_law_2452 (by decide) ?_
  refine x_iload (M := (M_law nm)) dL_law_33 rfl ?_
  refine x_aload_n (M := (M_law nm)) dL_law_35 rfl ?_
  refine x_slen (M := (M_law nm)) dL_law_36 (by decide) hx ?_
  refine x_bipush (M := (M_law nm)) dL_law_37 ?_
  refine x_isub (M := (M_law nm)) dL_law_39 ?_
  refine x_icmp_gt (M := (M_law nm)) (tgt := 2455) dL_law_40 (by decide) (fun _ => ?_) (fun q => absurd q (by decide +kernel))
  refine x_iconst (M := (M_law nm)) dL_law_2455 ?_
  exact x_zret (M := (M_law nm)) dL_law_2456 rfl (by decide) rfl (Nat.le_of_ble_eq_true rfl) (Nat.le_of_ble_eq_true rfl)
set_option maxRecDepth 10000 in
theorem q1692 {l : Launch} {E : EE} (hl : l.stackTraces = false) {h : HP} {a0 : Int32} {a1 : Int32} (c0 : ¬ (a0.toInt < 0)) (c1 : a0.toInt < 32) (c2 : ¬ (a1.toInt < 0)) (c3 : a1.toInt < 32) (o1686 : ob h 32 = some (.inr (14, [.ref 33, .ref 162, .ref 166, .int (0 : Int32), .int (0 : Int32), .int (0 : Int32), .ref 167, .ref 170, .ref 173, .ref 177, .ref 193, .ref 208, .ref 222, .ref 238, .ref 252, .ref 274, .ref 275, .ref 276, .int (0 : Int32)]))) (o1687 : ob h 33 = some (.inl (4, 32, .inr (.inr (.inr (.inr (shf 1 32))))))) (o1688 : ob h (34 + 4 * a0.toNatClampNeg) = some (.inr (9, [.ref (35 + 4 * a0.toNatClampNeg), .ref (36 + 4 * a0.toNatClampNeg), .ref (37 + 4 * a0.toNatClampNeg), .int (0 : Int32), .int (0 : Int32)]))) : en_C l E M_X11_copy 7 1 6 [.ref 32, .int a0, .int a1] h (pT "java/lang/IllegalStateException" [] h (fun _ => True)) := by
  have n_a0 : a0.toNatClampNeg < 32 := nc_lt (by omega) (by decide)
  refine en_mk m_X11_copy rfl hl (Nat.le_of_ble_eq_true rfl) ?_
  refine x_aload_n (M := M_X11_copy) dX11_copy_0 rfl ?_
  refine x_iload_n (M := M_X11_copy) dX11_copy_1 rfl ?_
  refine x_callVR (M := M_X11_copy) (M' := M_X11_slotNumbered) rfl rfl dX11_copy_2 m_X11_slotNumbered t_744 t_746 s_2 (q425 hl c0 c1 o1686 o1687) rfl rfl o1686 rfl (Nat.le_of_ble_eq_true rfl) (Nat.le_of_ble_eq_true rfl) (Nat.le_of_ble_eq_true rfl) (Nat.le_of_ble_eq_true rfl) ?_
  refine x_astore_n (M := M_X11_copy) dX11_copy_5 (Nat.le_of_ble_eq_true rfl) rfl ?_
  refine x_aload_n (M := M_X11_copy) dX11_copy_6 rfl ?_
  refine x_iload_n (M := M_X11_copy) dX11_copy_7 rfl ?_
  refine x_callVR (M := M_X11_copy) (M' := M_X11_slotNumbered) rfl rfl dX11_copy_8 m_X11_slotNumbered t_744 t_746 s_2 (q1503 hl c2 c3 o1686 o1687) rfl rfl o1686 rfl (Nat.le_of_ble_eq_true rfl) (Nat.le_of_ble_eq_true rfl) (Nat.le_of_ble_eq_true rfl) (Nat.le_of_ble_eq_true rfl) ?_
  refine x_astore (M := M_X11_copy) dX11_copy_11 (Nat.le_of_ble_eq_true rfl) rfl ?_
  refine x_aload_n (M := M_X11_copy) dX11_copy_13 rfl ?_
  exact y_callSX (M := M_X11_copy) (M' := M_X11_mustBeThere) rfl rfl dX11_copy_14 m_X11_mustBeThere t_1047 t_1048 (q810 hl c0 c1 o1688) rfl rfl (Nat.le_of_ble_eq_true rfl) (Nat.le_of_ble_eq_true rfl) (Nat.le_of_ble_eq_true rfl) (Nat.le_of_ble_eq_true rfl) (fun h1689 f1690 w1691 => ⟨rfl, (fr_tr f1690 (fun _ h => nomatch h) fr_rf), trivial⟩)
set_option maxRecDepth 10000 in
theorem q1699 {l : Launch} {E : EE} (hl : l.stackTraces = false) {h : HP} {a0 : Int32} {a1 : Int32} (c0 : ¬ (a0.toInt < 0)) (c1 : a0.toInt < 32) (c2 : ¬ (a1.toInt < 0)) (c3 : a1.toInt < 32) (o1693 : ob h 32 = some (.inr (14, [.ref 33, .ref 162, .ref 166, .int (0 : Int32), .int (0 : Int32), .int (0 : Int32), .ref 167, .ref 170, .ref 173, .ref 177, .ref 193, .ref 208, .ref 222, .ref 238, .ref 252, .ref 274, .ref 275, .ref 276, .int (0 : Int32)]))) (o1694 : ob h 33 = some (.inl (4, 32, .inr (.inr (.inr (.inr (shf 1 32))))))) (o1695 : ob h (34 + 4 * a0.toNatClampNeg) = some (.inr (9, [.ref (35 + 4 * a0.toNatClampNeg), .ref (36 + 4 * a0.toNatClampNeg), .ref (37 + 4 * a0.toNatClampNeg), .int (0 : Int32), .int (0 : Int32)]))) : en_C l E M_L_copy 8 1 6 [.ref 32, .int a0, .int a1, .ref 359] h (pF (some (.int (Int32.ofInt 2))) [] h (fun _ => True)) := by
  have n_a0 : a0.toNatClampNeg < 32 := nc_lt (by omega) (by decide)
  refine en_mkW m_L_copy rfl hl (Nat.le_of_ble_eq_true rfl) ?_
  refine x_aload_n (M := M_L_copy) dL_copy_0 rfl ?_
  refine x_iconst (M := M_L_copy) dL_copy_1 ?_
  refine x_aload_n (M := M_L_copy) dL_copy_2 rfl ?_
  refine x_iload_n (M := M_L_copy) dL_copy_3 rfl ?_
  refine x_iload_n (M := M_L_copy) dL_copy_4 rfl ?_
  refine y_callVHX (M := M_L_copy) (M' := M_X11_copy) (i9 := 4) (nx := 19) rfl dL_copy_5 m_X11_copy t_1146 t_1147 t_1148 o1693 rfl (q1692 hl c0 c1 c2 c3 o1693 o1694 o1695) rfl rfl (Nat.le_of_ble_eq_true rfl) (Nat.le_of_ble_eq_true rfl) (Nat.le_of_ble_eq_true rfl) (Nat.le_of_ble_eq_true rfl) (en_hdm (k0 := 4) [(0, 10, 13, 24)] [] rfl (List.forall_mem_cons.mpr ⟨⟨by decide, "java/lang/IndexOutOfBoundsException", t_739, by decide +kernel, by decide +kernel, by decide +kernel⟩, (fun _ h => nomatch h)⟩) (by decide +kernel) (by decide) t_637 n_645 dL_copy_17) (by decide) rfl (fun h1696 f1697 w1698 => ?_)
  refine x_iconst (M := M_L_copy) dL_copy_19 ?_
  exact x_iret (M := M_L_copy) dL_copy_20 rfl ⟨rfl, (fr_tr f1697 (fun _ h => nomatch h) fr_rf), trivial⟩ (Nat.le_of_ble_eq_true rfl) (Nat.le_of_ble_eq_true rfl)
set_option maxRecDepth 10000 in
theorem q1720 {l : Launch} {E : EE} (hl : l.stackTraces = false) {h : HP} {a0 : Int32} {a1 : Int32} {dg : Int32} (c0 : ¬ (a0.toInt < 0)) (c1 : a0.toInt < 32) (c2 : ¬ (a1.toInt < 0)) (c3 : a1.toInt < 32) (o1706 : ob h 277 = some (.inr (15, (RB dg)))) (o1714 : ob h 280 = some (.inl (0, 33, .inl (fun _ => 0)))) : en_C l E M_X12_copy 1 0 0 [.ref 277, .int a0, .int a1] h (pF (some (.int (Int32.ofInt 0))) [277] h (fun h' => ob h' 277 = some (.inr (15, ((RB dg).set 0 (.int (Int32.ofInt 2))))) ∧ True)) := by
  refine en_mk m_X12_copy rfl hl (Nat.le_of_ble_eq_true rfl) ?_
  refine x_aload_n (M := M_X12_copy) dX12_copy_0 rfl ?_
  refine x_iconst (M := M_X12_copy) dX12_copy_1 ?_
  refine y_put (M := M_X12_copy) (ci := 15) (C := RX12) (T := TX12) (N := 135) (ty := tyX12) cl15 dX12_copy_2 o1706 0 (by decide) t_2391 (Or.inl rfl) (Nat.le_of_ble_eq_true rfl) rfl (fun h1707 w1708 f1709 => ?_)
  refine x_aload_n (M := M_X12_copy) dX12_copy_5 rfl ?_
  refine x_iload_n (M := M_X12_copy) dX12_copy_6 rfl ?_
  refine x_callSR (M := M_X12_copy) (M' := M_X12_isSlot) rfl rfl dX12_copy_7 m_X12_isSlot t_2841 t_2842 (q447 hl c0 c1) rfl rfl (Nat.le_of_ble_eq_true rfl) (Nat.le_of_ble_eq_true rfl) (Nat.le_of_ble_eq_true rfl) (Nat.le_of_ble_eq_true rfl) ?_
  refine x_if_eq (M := M_X12_copy) (tgt := 20) dX12_copy_10 (by decide) (fun q => absurd q (by decide +kernel)) (fun _ => ?_)
  refine x_iload_n (M := M_X12_copy) dX12_copy_13 rfl ?_
  refine x_callSR (M := M_X12_copy) (M' := M_X12_isSlot) rfl rfl dX12_copy_14 m_X12_isSlot t_2841 t_2842 (q1536 hl c2 c3) rfl rfl (Nat.le_of_ble_eq_true rfl) (Nat.le_of_ble_eq_true rfl) (Nat.le_of_ble_eq_true rfl) (Nat.le_of_ble_eq_true rfl) ?_
  refine x_if_ne (M := M_X12_copy) (tgt := 24) dX12_copy_17 (by decide) (fun _ => ?_) (fun q => absurd q (by decide +kernel))
  refine x_iconst (M := M_X12_copy) dX12_copy_24 ?_
  refine x_iconst (M := M_X12_copy) dX12_copy_25 ?_
  refine y_callVR (M := M_X12_copy) (M' := M_X12_fails) rfl rfl dX12_copy_26 m_X12_fails t_2805 t_2807 s_157 (q241 hl w1708) rfl rfl w1708 rfl (Nat.le_of_ble_eq_true rfl) (Nat.le_of_ble_eq_true rfl) (Nat.le_of_ble_eq_true rfl) (Nat.le_of_ble_eq_true rfl) (fun h1710 f1711 w1712 => ?_)
  obtain ⟨o1713, -⟩ := w1712
  refine x_if_ne (M := M_X12_copy) (tgt := 53) dX12_copy_29 (by decide) (fun q => absurd q (by decide +kernel)) (fun _ => ?_)
  refine x_aload_n (M := M_X12_copy) dX12_copy_32 rfl ?_
  refine x_aload_n (M := M_X12_copy) dX12_copy_33 rfl ?_
  refine x_iload_n (M := M_X12_copy) dX12_copy_34 rfl ?_
  have o1715 := (f1711 280 _ (by decide) (f1709 280 _ (by decide) o1714))
  refine x_callVR (M := M_X12_copy) (M' := M_X12_has) rfl rfl dX12_copy_35 m_X12_has t_3033 t_3035 s_197 (q839 hl c0 c1 o1713 o1715) rfl rfl o1713 rfl (Nat.le_of_ble_eq_true rfl) (Nat.le_of_ble_eq_true rfl) (Nat.le_of_ble_eq_true rfl) (Nat.le_of_ble_eq_true rfl) ?_
  refine x_if_ne (M := M_X12_copy) (tgt := 45) dX12_copy_38 (by decide) (fun q => absurd q (by decide +kernel)) (fun _ => ?_)
  refine x_iconst (M := M_X12_copy) dX12_copy_41 ?_
  refine x_goto (M := M_X12_copy) (tgt := 46) dX12_copy_42 (by decide) ?_
  refine x_iconst (M := M_X12_copy) dX12_copy_46 ?_
  refine y_callVR (M := M_X12_copy) (M' := M_X12_fails) rfl rfl dX12_copy_47 m_X12_fails t_2805 t_2807 s_157 (q761 hl o1713) rfl rfl o1713 rfl (Nat.le_of_ble_eq_true rfl) (Nat.le_of_ble_eq_true rfl) (Nat.le_of_ble_eq_true rfl) (Nat.le_of_ble_eq_true rfl) (fun h1716 f1717 w1718 => ?_)
  obtain ⟨o1719, -⟩ := w1718
  refine x_if_eq (M := M_X12_copy) (tgt := 55) dX12_copy_50 (by decide) (fun q => absurd q (by decide +kernel)) (fun _ => ?_)
  refine x_iconst (M := M_X12_copy) dX12_copy_53 ?_
  exact x_iret (M := M_X12_copy) dX12_copy_54 rfl ⟨rfl, (fr_tr f1717 (by decide) (fr_tr f1711 (by decide) (fr_tr f1709 (by decide) fr_rf))), ⟨o1719, trivial⟩⟩ (Nat.le_of_ble_eq_true rfl) (Nat.le_of_ble_eq_true rfl)
set_option maxRecDepth 10000 in
theorem lc9_2 {l : Launch} {E : EE} (hl : l.stackTraces = false) (nm : String) {xs : Nat → Int32} (hx : E.2.2.2.2 0 = some (7, xs)) {h : HP} {a0 : Int32} {a1 : Int32} {dg : Int32} (e2 : xs 2 = a0) (e3 : xs 3 = a1) (c0 : ¬ (a0.toInt < 0)) (c1 : a0.toInt < 32) (c2 : ¬ (a1.toInt < 0)) (c3 : a1.toInt < 32) (o1700 : ob h 32 = some (.inr (14, [.ref 33, .ref 162, .ref 166, .int (0 : Int32), .int (0 : Int32), .int (0 : Int32), .ref 167, .ref 170, .ref 173, .ref 177, .ref 193, .ref 208, .ref 222, .ref 238, .ref 252, .ref 274, .ref 275, .ref 276, .int (0 : Int32)]))) (o1701 : ob h 33 = some (.inl (4, 32, .inr (.inr (.inr (.inr (shf 1 32))))))) (o1702 : ob h (34 + 4 * a0.toNatClampNeg) = some (.inr (9, [.ref (35 + 4 * a0.toNatClampNeg), .ref (36 + 4 * a0.toNatClampNeg), .ref (37 + 4 * a0.toNatClampNeg), .int (0 : Int32), .int (0 : Int32)]))) (o1721 : ob h 277 = some (.inr (15, (RB dg)))) (o1723 : ob h 280 = some (.inl (0, 33, .inl (fun _ => 0)))) : XX l E (M_law nm) 1312 342628 8074320 (fun o _ => o = .inl (some (.int 1))) 713 [some (.ref 0), some (.ref 32), some (.ref 277), some (.ref 359), some (.int (Int32.ofInt 1)), none, none, none] [] h 328 2463747 := by
  have n_a0 : a0.toNatClampNeg < 32 := nc_lt (by omega) (by decide)
  refine x_aload_n (M := (M_law nm)) dL_law_713 rfl ?_
  refine x_aload_n (M := (M_law nm)) dL_law_714 rfl ?_
  refine x_iload (M := (M_law nm)) dL_law_715 rfl ?_
  refine x_iconst (M := (M_law nm)) dL_law_717 ?_
  refine x_iadd (M := (M_law nm)) dL_law_718 ?_
  refine x_sald (M := (M_law nm)) dL_law_719 (by decide) hx (vp_inD (by decide +kernel)) ?_
  refine x_top (M := (M_law nm)) (y := a0) ((congrArg xs (by decide +kernel : ((Int32.ofInt 1) + (Int32.ofInt 1)).toNatClampNeg = 2)).trans e2) ?_
  refine x_aload_n (M := (M_law nm)) dL_law_720 rfl ?_
  refine x_iload (M := (M_law nm)) dL_law_721 rfl ?_
  refine x_iconst (M := (M_law nm)) dL_law_723 ?_
  refine x_iadd (M := (M_law nm)) dL_law_724 ?_
  refine x_sald (M := (M_law nm)) dL_law_725 (by decide) hx (vp_inD (by decide +kernel)) ?_
  refine x_top (M := (M_law nm)) (y := a1) ((congrArg xs (by decide +kernel : ((Int32.ofInt 1) + (Int32.ofInt 2)).toNatClampNeg = 3)).trans e3) ?_
  refine x_aload_n (M := (M_law nm)) dL_law_726 rfl ?_
  refine y_callSW (M := (M_law nm)) (M' := M_L_copy) rfl rfl dL_law_727 m_L_copy t_1143 t_1144 (q1699 hl c0 c1 c2 c3 o1700 o1701 o1702) rfl rfl (Nat.le_of_ble_eq_true rfl) (Nat.le_of_ble_eq_true rfl) (Nat.le_of_ble_eq_true rfl) (Nat.le_of_ble_eq_true rfl) (fun h1703 f1704 w1705 => ?_)
  refine x_istore (M := (M_law nm)) dL_law_730 (Nat.le_of_ble_eq_true rfl) rfl ?_
  refine x_aload_n (M := (M_law nm)) dL_law_732 rfl ?_
  refine x_aload_n (M := (M_law nm)) dL_law_733 rfl ?_
  refine x_iload (M := (M_law nm)) dL_law_734 rfl ?_
  refine x_iconst (M := (M_law nm)) dL_law_736 ?_
  refine x_iadd (M := (M_law nm)) dL_law_737 ?_
  refine x_sald (M := (M_law nm)) dL_law_738 (by decide) hx (vp_inD (by decide +kernel)) ?_
  refine x_top (M := (M_law nm)) (y := a0) ((congrArg xs (by decide +kernel : ((Int32.ofInt 1) + (Int32.ofInt 1)).toNatClampNeg = 2)).trans e2) ?_
  refine x_aload_n (M := (M_law nm)) dL_law_739 rfl ?_
  refine x_iload (M := (M_law nm)) dL_law_740 rfl ?_
  refine x_iconst (M := (M_law nm)) dL_law_742 ?_
  refine x_iadd (M := (M_law nm)) dL_law_743 ?_
  refine x_sald (M := (M_law nm)) dL_law_744 (by decide) hx (vp_inD (by decide +kernel)) ?_
  refine x_top (M := (M_law nm)) (y := a1) ((congrArg xs (by decide +kernel : ((Int32.ofInt 1) + (Int32.ofInt 2)).toNatClampNeg = 3)).trans e3) ?_
  have o1722 := (f1704 277 _ (by decide) o1721)
  have o1724 := (f1704 280 _ (by decide) o1723)
  refine y_callVR (M := (M_law nm)) (M' := M_X12_copy) rfl rfl dL_law_745 m_X12_copy t_3094 t_3095 t_3096 (q1720 hl c0 c1 c2 c3 o1722 o1724) rfl rfl o1722 rfl (Nat.le_of_ble_eq_true rfl) (Nat.le_of_ble_eq_true rfl) (Nat.le_of_ble_eq_true rfl) (Nat.le_of_ble_eq_true rfl) (fun h1725 f1726 w1727 => ?_)
  obtain ⟨o1728, -⟩ := w1727
  refine x_istore (M := (M_law nm)) dL_law_748 (Nat.le_of_ble_eq_true rfl) rfl ?_
  refine x_aload_n (M := (M_law nm)) dL_law_750 rfl ?_
  refine x_callVR (M := (M_law nm)) (M' := M_X12_thrown) rfl rfl dL_law_751 m_X12_thrown t_2797 t_2798 t_2799 (q774 hl o1728) rfl rfl o1728 rfl (Nat.le_of_ble_eq_true rfl) (Nat.le_of_ble_eq_true rfl) (Nat.le_of_ble_eq_true rfl) (Nat.le_of_ble_eq_true rfl) ?_
  refine x_iload (M := (M_law nm)) dL_law_754 rfl ?_
  refine x_icmp_eq (M := (M_law nm)) (tgt := 761) dL_law_756 (by decide) (fun _ => ?_) (fun q => absurd q (by decide +kernel))
  refine x_iload (M := (M_law nm)) dL_law_761 rfl ?_
  refine x_if_ne (M := (M_law nm)) (tgt := 778) dL_law_763 (by decide) (fun _ => ?_) (fun q => absurd q (by decide +kernel))
  refine x_goto (M := (M_law nm)) (tgt := 2449) dL_law_778 (by decide) ?_
  refine x_iinc (M := (M_law nm)) dL_law_2449 rfl (Nat.le_of_ble_eq_true rfl) rfl ?_
  refine x_lvs (M := (M_law nm)) (lv' := [some (.ref 0), some (.ref 32), some (.ref 277), some (.ref 359), some (.int (Int32.ofInt 7)), some (.int (Int32.ofInt 2)), some (.int (Int32.ofInt 0)), none]) (by rw [(by decide +kernel : (Int32.ofInt 1) + Int32.ofInt 6 = (Int32.ofInt 7))] <;> rfl) ?_
  refine x_goto (M := (M_law nm)) (tgt := 33) dL_law_2452 (by decide) ?_
  refine x_iload (M := (M_law nm)) dL_law_33 rfl ?_
  refine x_aload_n (M := (M_law nm)) dL_law_35 rfl ?_
  refine x_slen (M := (M_law nm)) dL_law_36 (by decide) hx ?_
  refine x_bipush (M := (M_law nm)) dL_law_37 ?_
  refine x_isub (M := (M_law nm)) dL_law_39 ?_
  refine x_icmp_gt (M := (M_law nm)) (tgt := 2455) dL_law_40 (by decide) (fun _ => ?_) (fun q => absurd q (by decide +kernel))
  refine x_iconst (M := (M_law nm)) dL_law_2455 ?_
  exact x_zret (M := (M_law nm)) dL_law_2456 rfl (by decide) rfl (Nat.le_of_ble_eq_true rfl) (Nat.le_of_ble_eq_true rfl)
set_option maxRecDepth 10000 in
theorem q1734 {l : Launch} {E : EE} (hl : l.stackTraces = false) {h : HP} {a0 : Int32} {a1 : Int32} (c0 : ¬ (a0.toInt < 0)) (c1 : a0.toInt < 32) (c2 : ¬ (a1.toInt < 0)) (c3 : ¬ (a1.toInt < 32)) (o1729 : ob h 32 = some (.inr (14, [.ref 33, .ref 162, .ref 166, .int (0 : Int32), .int (0 : Int32), .int (0 : Int32), .ref 167, .ref 170, .ref 173, .ref 177, .ref 193, .ref 208, .ref 222, .ref 238, .ref 252, .ref 274, .ref 275, .ref 276, .int (0 : Int32)]))) (o1730 : ob h 33 = some (.inl (4, 32, .inr (.inr (.inr (.inr (shf 1 32))))))) : en_C l E M_X11_copy 7 1 6 [.ref 32, .int a0, .int a1] h (pT "java/lang/IndexOutOfBoundsException" [] h (fun _ => True)) := by
  refine en_mk m_X11_copy rfl hl (Nat.le_of_ble_eq_true rfl) ?_
  refine x_aload_n (M := M_X11_copy) dX11_copy_0 rfl ?_
  refine x_iload_n (M := M_X11_copy) dX11_copy_1 rfl ?_
  refine x_callVR (M := M_X11_copy) (M' := M_X11_slotNumbered) rfl rfl dX11_copy_2 m_X11_slotNumbered t_744 t_746 s_2 (q425 hl c0 c1 o1729 o1730) rfl rfl o1729 rfl (Nat.le_of_ble_eq_true rfl) (Nat.le_of_ble_eq_true rfl) (Nat.le_of_ble_eq_true rfl) (Nat.le_of_ble_eq_true rfl) ?_
  refine x_astore_n (M := M_X11_copy) dX11_copy_5 (Nat.le_of_ble_eq_true rfl) rfl ?_
  refine x_aload_n (M := M_X11_copy) dX11_copy_6 rfl ?_
  refine x_iload_n (M := M_X11_copy) dX11_copy_7 rfl ?_
  exact y_callVX (M := M_X11_copy) (M' := M_X11_slotNumbered) rfl rfl dX11_copy_8 m_X11_slotNumbered t_744 t_746 s_2 (q1560 hl c2 c3) rfl rfl o1729 rfl (Nat.le_of_ble_eq_true rfl) (Nat.le_of_ble_eq_true rfl) (Nat.le_of_ble_eq_true rfl) (Nat.le_of_ble_eq_true rfl) (fun h1731 f1732 w1733 => ⟨rfl, (fr_tr f1732 (fun _ h => nomatch h) fr_rf), trivial⟩)
set_option maxRecDepth 10000 in
theorem q1740 {l : Launch} {E : EE} (hl : l.stackTraces = false) {h : HP} {a0 : Int32} {a1 : Int32} (c0 : ¬ (a0.toInt < 0)) (c1 : a0.toInt < 32) (c2 : ¬ (a1.toInt < 0)) (c3 : ¬ (a1.toInt < 32)) (o1735 : ob h 32 = some (.inr (14, [.ref 33, .ref 162, .ref 166, .int (0 : Int32), .int (0 : Int32), .int (0 : Int32), .ref 167, .ref 170, .ref 173, .ref 177, .ref 193, .ref 208, .ref 222, .ref 238, .ref 252, .ref 274, .ref 275, .ref 276, .int (0 : Int32)]))) (o1736 : ob h 33 = some (.inl (4, 32, .inr (.inr (.inr (.inr (shf 1 32))))))) : en_C l E M_L_copy 8 1 6 [.ref 32, .int a0, .int a1, .ref 359] h (pF (some (.int (Int32.ofInt 1))) [] h (fun _ => True)) := by
  refine en_mkW m_L_copy rfl hl (Nat.le_of_ble_eq_true rfl) ?_
  refine x_aload_n (M := M_L_copy) dL_copy_0 rfl ?_
  refine x_iconst (M := M_L_copy) dL_copy_1 ?_
  refine x_aload_n (M := M_L_copy) dL_copy_2 rfl ?_
  refine x_iload_n (M := M_L_copy) dL_copy_3 rfl ?_
  refine x_iload_n (M := M_L_copy) dL_copy_4 rfl ?_
  refine y_callVHX (M := M_L_copy) (M' := M_X11_copy) (i9 := 4) (nx := 15) rfl dL_copy_5 m_X11_copy t_1146 t_1147 t_1148 o1735 rfl (q1734 hl c0 c1 c2 c3 o1735 o1736) rfl rfl (Nat.le_of_ble_eq_true rfl) (Nat.le_of_ble_eq_true rfl) (Nat.le_of_ble_eq_true rfl) (Nat.le_of_ble_eq_true rfl) (en_hdm (k0 := 4) [] [(0, 10, 17, 13)] rfl (fun _ h => nomatch h) (by decide +kernel) (by decide) t_739 n_750 dL_copy_13) (by decide) rfl (fun h1737 f1738 w1739 => ?_)
  refine x_iconst (M := M_L_copy) dL_copy_15 ?_
  exact x_iret (M := M_L_copy) dL_copy_16 rfl ⟨rfl, (fr_tr f1738 (fun _ h => nomatch h) fr_rf), trivial⟩ (Nat.le_of_ble_eq_true rfl) (Nat.le_of_ble_eq_true rfl)
set_option maxRecDepth 10000 in
theorem q1754 {l : Launch} {E : EE} (hl : l.stackTraces = false) {h : HP} {a0 : Int32} {a1 : Int32} {dg : Int32} (c0 : ¬ (a0.toInt < 0)) (c1 : a0.toInt < 32) (c2 : ¬ (a1.toInt < 0)) (c3 : ¬ (a1.toInt < 32)) (o1746 : ob h 277 = some (.inr (15, (RB dg)))) : en_C l E M_X12_copy 1 0 0 [.ref 277, .int a0, .int a1] h (pF (some (.int (Int32.ofInt 0))) [277] h (fun h' => ob h' 277 = some (.inr (15, ((RB dg).set 0 (.int (Int32.ofInt 1))))) ∧ True)) := by
  refine en_mk m_X12_copy rfl hl (Nat.le_of_ble_eq_true rfl) ?_
  refine x_aload_n (M := M_X12_copy) dX12_copy_0 rfl ?_
  refine x_iconst (M := M_X12_copy) dX12_copy_1 ?_
  refine y_put (M := M_X12_copy) (ci := 15) (C := RX12) (T := TX12) (N := 135) (ty := tyX12) cl15 dX12_copy_2 o1746 0 (by decide) t_2391 (Or.inl rfl) (Nat.le_of_ble_eq_true rfl) rfl (fun h1747 w1748 f1749 => ?_)
  refine x_aload_n (M := M_X12_copy) dX12_copy_5 rfl ?_
  refine x_iload_n (M := M_X12_copy) dX12_copy_6 rfl ?_
  refine x_callSR (M := M_X12_copy) (M' := M_X12_isSlot) rfl rfl dX12_copy_7 m_X12_isSlot t_2841 t_2842 (q447 hl c0 c1) rfl rfl (Nat.le_of_ble_eq_true rfl) (Nat.le_of_ble_eq_true rfl) (Nat.le_of_ble_eq_true rfl) (Nat.le_of_ble_eq_true rfl) ?_
  refine x_if_eq (M := M_X12_copy) (tgt := 20) dX12_copy_10 (by decide) (fun q => absurd q (by decide +kernel)) (fun _ => ?_)
  refine x_iload_n (M := M_X12_copy) dX12_copy_13 rfl ?_
  refine x_callSR (M := M_X12_copy) (M' := M_X12_isSlot) rfl rfl dX12_copy_14 m_X12_isSlot t_2841 t_2842 (q1580 hl c2 c3) rfl rfl (Nat.le_of_ble_eq_true rfl) (Nat.le_of_ble_eq_true rfl) (Nat.le_of_ble_eq_true rfl) (Nat.le_of_ble_eq_true rfl) ?_
  refine x_if_ne (M := M_X12_copy) (tgt := 24) dX12_copy_17 (by decide) (fun q => absurd q (by decide +kernel)) (fun _ => ?_)
  refine x_iconst (M := M_X12_copy) dX12_copy_20 ?_
  refine x_goto (M := M_X12_copy) (tgt := 25) dX12_copy_21 (by decide) ?_
  refine x_iconst (M := M_X12_copy) dX12_copy_25 ?_
  refine y_callVR (M := M_X12_copy) (M' := M_X12_fails) rfl rfl dX12_copy_26 m_X12_fails t_2805 t_2807 s_157 (q22 hl w1748) rfl rfl w1748 rfl (Nat.le_of_ble_eq_true rfl) (Nat.le_of_ble_eq_true rfl) (Nat.le_of_ble_eq_true rfl) (Nat.le_of_ble_eq_true rfl) (fun h1750 f1751 w1752 => ?_)
  obtain ⟨o1753, -⟩ := w1752
  refine x_if_ne (M := M_X12_copy) (tgt := 53) dX12_copy_29 (by decide) (fun _ => ?_) (fun q => absurd q (by decide +kernel))
  refine x_iconst (M := M_X12_copy) dX12_copy_53 ?_
  exact x_iret (M := M_X12_copy) dX12_copy_54 rfl ⟨rfl, (fr_tr f1751 (by decide) (fr_tr f1749 (by decide) fr_rf)), ⟨o1753, trivial⟩⟩ (Nat.le_of_ble_eq_true rfl) (Nat.le_of_ble_eq_true rfl)
set_option maxRecDepth 10000 in
theorem lc9_3 {l : Launch} {E : EE} (hl : l.stackTraces = false) (nm : String) {xs : Nat → Int32} (hx : E.2.2.2.2 0 = some (7, xs)) {h : HP} {a0 : Int32} {a1 : Int32} {dg : Int32} (e2 : xs 2 = a0) (e3 : xs 3 = a1) (c0 : ¬ (a0.toInt < 0)) (c1 : a0.toInt < 32) (c2 : ¬ (a1.toInt < 0)) (c3 : ¬ (a1.toInt < 32)) (o1741 : ob h 32 = some (.inr (14, [.ref 33, .ref 162, .ref 166, .int (0 : Int32), .int (0 : Int32), .int (0 : Int32), .ref 167, .ref 170, .ref 173, .ref 177, .ref 193, .ref 208, .ref 222, .ref 238, .ref 252, .ref 274, .ref 275, .ref 276, .int (0 : Int32)]))) (o1742 : ob h 33 = some (.inl (4, 32, .inr (.inr (.inr (.inr (shf 1 32))))))) (o1755 : ob h 277 = some (.inr (15, (RB dg)))) : XX l E (M_law nm) 1312 342628 8074320 (fun o _ => o = .inl (some (.int 1))) 713 [some (.ref 0), some (.ref 32), some (.ref 277), some (.ref 359), some (.int (Int32.ofInt 1)), none, none, none] [] h 328 2463747 := by
  refine x_aload_n (M := (M_law nm)) dL_law_713 rfl ?_
  refine x_aload_n (M := (M_law nm)) dL_law_714 rfl ?_
  refine x_iload (M := (M_law nm)) dL_law_715 rfl ?_
  refine x_iconst (M := (M_law nm)) dL_law_717 ?_
  refine x_iadd (M := (M_law nm)) dL_law_718 ?_
  refine x_sald (M := (M_law nm)) dL_law_719 (by decide) hx (vp_inD (by decide +kernel)) ?_
  refine x_top (M := (M_law nm)) (y := a0) ((congrArg xs (by decide +kernel : ((Int32.ofInt 1) + (Int32.ofInt 1)).toNatClampNeg = 2)).trans e2) ?_
  refine x_aload_n (M := (M_law nm)) dL_law_720 rfl ?_
  refine x_iload (M := (M_law nm)) dL_law_721 rfl ?_
  refine x_iconst (M := (M_law nm)) dL_law_723 ?_
  refine x_iadd (M := (M_law nm)) dL_law_724 ?_
  refine x_sald (M := (M_law nm)) dL_law_725 (by decide) hx (vp_inD (by decide +kernel)) ?_
  refine x_top (M := (M_law nm)) (y := a1) ((congrArg xs (by decide +kernel : ((Int32.ofInt 1) + (Int32.ofInt 2)).toNatClampNeg = 3)).trans e3) ?_
  refine x_aload_n (M := (M_law nm)) dL_law_726 rfl ?_
  refine y_callSW (M := (M_law nm)) (M' := M_L_copy) rfl rfl dL_law_727 m_L_copy t_1143 t_1144 (q1740 hl c0 c1 c2 c3 o1741 o1742) rfl rfl (Nat.le_of_ble_eq_true rfl) (Nat.le_of_ble_eq_true rfl) (Nat.le_of_ble_eq_true rfl) (Nat.le_of_ble_eq_true rfl) (fun h1743 f1744 w1745 => ?_)
  refine x_istore (M := (M_law nm)) dL_law_730 (Nat.le_of_ble_eq_true rfl) rfl ?_
  refine x_aload_n (M := (M_law nm)) dL_law_732 rfl ?_
  refine x_aload_n (M := (M_law nm)) dL_law_733 rfl ?_
  refine x_iload (M := (M_law nm)) dL_law_734 rfl ?_
  refine x_iconst (M := (M_law nm)) dL_law_736 ?_
  refine x_iadd (M := (M_law nm)) dL_law_737 ?_
  refine x_sald (M := (M_law nm)) dL_law_738 (by decide) hx (vp_inD (by decide +kernel)) ?_
  refine x_top (M := (M_law nm)) (y := a0) ((congrArg xs (by decide +kernel : ((Int32.ofInt 1) + (Int32.ofInt 1)).toNatClampNeg = 2)).trans e2) ?_
  refine x_aload_n (M := (M_law nm)) dL_law_739 rfl ?_
  refine x_iload (M := (M_law nm)) dL_law_740 rfl ?_
  refine x_iconst (M := (M_law nm)) dL_law_742 ?_
  refine x_iadd (M := (M_law nm)) dL_law_743 ?_
  refine x_sald (M := (M_law nm)) dL_law_744 (by decide) hx (vp_inD (by decide +kernel)) ?_
  refine x_top (M := (M_law nm)) (y := a1) ((congrArg xs (by decide +kernel : ((Int32.ofInt 1) + (Int32.ofInt 2)).toNatClampNeg = 3)).trans e3) ?_
  have o1756 := (f1744 277 _ (by decide) o1755)
  refine y_callVR (M := (M_law nm)) (M' := M_X12_copy) rfl rfl dL_law_745 m_X12_copy t_3094 t_3095 t_3096 (q1754 hl c0 c1 c2 c3 o1756) rfl rfl o1756 rfl (Nat.le_of_ble_eq_true rfl) (Nat.le_of_ble_eq_true rfl) (Nat.le_of_ble_eq_true rfl) (Nat.le_of_ble_eq_true rfl) (fun h1757 f1758 w1759 => ?_)
  obtain ⟨o1760, -⟩ := w1759
  refine x_istore (M := (M_law nm)) dL_law_748 (Nat.le_of_ble_eq_true rfl) rfl ?_
  refine x_aload_n (M := (M_law nm)) dL_law_750 rfl ?_
  refine x_callVR (M := (M_law nm)) (M' := M_X12_thrown) rfl rfl dL_law_751 m_X12_thrown t_2797 t_2798 t_2799 (q35 hl o1760) rfl rfl o1760 rfl (Nat.le_of_ble_eq_true rfl) (Nat.le_of_ble_eq_true rfl) (Nat.le_of_ble_eq_true rfl) (Nat.le_of_ble_eq_true rfl) ?_
  refine x_iload (M := (M_law nm)) dL_law_754 rfl ?_
  refine x_icmp_eq (M := (M_law nm)) (tgt := 761) dL_law_756 (by decide) (fun _ => ?_) (fun q => absurd q (by decide +kernel))
  refine x_iload (M := (M_law nm)) dL_law_761 rfl ?_
  refine x_if_ne (M := (M_law nm)) (tgt := 778) dL_law_763 (by decide) (fun _ => ?_) (fun q => absurd q (by decide +kernel))
  refine x_goto (M := (M_law nm)) (tgt := 2449) dL_law_778 (by decide) ?_
  refine x_iinc (M := (M_law nm)) dL_law_2449 rfl (Nat.le_of_ble_eq_true rfl) rfl ?_
  refine x_lvs (M := (M_law nm)) (lv' := [some (.ref 0), some (.ref 32), some (.ref 277), some (.ref 359), some (.int (Int32.ofInt 7)), some (.int (Int32.ofInt 1)), some (.int (Int32.ofInt 0)), none]) (by rw [(by decide +kernel : (Int32.ofInt 1) + Int32.ofInt 6 = (Int32.ofInt 7))] <;> rfl) ?_
  refine x_goto (M := (M_law nm)) (tgt := 33) dL_law_2452 (by decide) ?_
  refine x_iload (M := (M_law nm)) dL_law_33 rfl ?_
  refine x_aload_n (M := (M_law nm)) dL_law_35 rfl ?_
  refine x_slen (M := (M_law nm)) dL_law_36 (by decide) hx ?_
  refine x_bipush (M := (M_law nm)) dL_law_37 ?_
  refine x_isub (M := (M_law nm)) dL_law_39 ?_
  refine x_icmp_gt (M := (M_law nm)) (tgt := 2455) dL_law_40 (by decide) (fun _ => ?_) (fun q => absurd q (by decide +kernel))
  refine x_iconst (M := (M_law nm)) dL_law_2455 ?_
  exact x_zret (M := (M_law nm)) dL_law_2456 rfl (by decide) rfl (Nat.le_of_ble_eq_true rfl) (Nat.le_of_ble_eq_true rfl)
set_option maxRecDepth 10000 in
theorem q1765 {l : Launch} {E : EE} (hl : l.stackTraces = false) {h : HP} {a0 : Int32} {a1 : Int32} (c0 : ¬ (a0.toInt < 0)) (c1 : ¬ (a0.toInt < 32)) (o1761 : ob h 32 = some (.inr (14, [.ref 33, .ref 162, .ref 166, .int (0 : Int32), .int (0 : Int32), .int (0 : Int32), .ref 167, .ref 170, .ref 173, .ref 177, .ref 193, .ref 208, .ref 222, .ref 238, .ref 252, .ref 274, .ref 275, .ref 276, .int (0 : Int32)]))) : en_C l E M_X11_copy 7 1 6 [.ref 32, .int a0, .int a1] h (pT "java/lang/IndexOutOfBoundsException" [] h (fun _ => True)) := by
  refine en_mk m_X11_copy rfl hl (Nat.le_of_ble_eq_true rfl) ?_
  refine x_aload_n (M := M_X11_copy) dX11_copy_0 rfl ?_
  refine x_iload_n (M := M_X11_copy) dX11_copy_1 rfl ?_
  exact y_callVX (M := M_X11_copy) (M' := M_X11_slotNumbered) rfl rfl dX11_copy_2 m_X11_slotNumbered t_744 t_746 s_2 (q511 hl c0 c1) rfl rfl o1761 rfl (Nat.le_of_ble_eq_true rfl) (Nat.le_of_ble_eq_true rfl) (Nat.le_of_ble_eq_true rfl) (Nat.le_of_ble_eq_true rfl) (fun h1762 f1763 w1764 => ⟨rfl, (fr_tr f1763 (fun _ h => nomatch h) fr_rf), trivial⟩)
set_option maxRecDepth 10000 in
theorem q1770 {l : Launch} {E : EE} (hl : l.stackTraces = false) {h : HP} {a0 : Int32} {a1 : Int32} (c0 : ¬ (a0.toInt < 0)) (c1 : ¬ (a0.toInt < 32)) (o1766 : ob h 32 = some (.inr (14, [.ref 33, .ref 162, .ref 166, .int (0 : Int32), .int (0 : Int32), .int (0 : Int32), .ref 167, .ref 170, .ref 173, .ref 177, .ref 193, .ref 208, .ref 222, .ref 238, .ref 252, .ref 274, .ref 275, .ref 276, .int (0 : Int32)]))) : en_C l E M_L_copy 8 1 6 [.ref 32, .int a0, .int a1, .ref 359] h (pF (some (.int (Int32.ofInt 1))) [] h (fun _ => True)) := by
  refine en_mkW m_L_copy rfl hl (Nat.le_of_ble_eq_true rfl) ?_
  refine x_aload_n (M := M_L_copy) dL_copy_0 rfl ?_
  refine x_iconst (M := M_L_copy) dL_copy_1 ?_
  refine x_aload_n (M := M_L_copy) dL_copy_2 rfl ?_
  refine x_iload_n (M := M_L_copy) dL_copy_3 rfl ?_
  refine x_iload_n (M := M_L_copy) dL_copy_4 rfl ?_
  refine y_callVHX (M := M_L_copy) (M' := M_X11_copy) (i9 := 4) (nx := 15) rfl dL_copy_5 m_X11_copy t_1146 t_1147 t_1148 o1766 rfl (q1765 hl c0 c1 o1766) rfl rfl (Nat.le_of_ble_eq_true rfl) (Nat.le_of_ble_eq_true rfl) (Nat.le_of_ble_eq_true rfl) (Nat.le_of_ble_eq_true rfl) (en_hdm (k0 := 4) [] [(0, 10, 17, 13)] rfl (fun _ h => nomatch h) (by decide +kernel) (by decide) t_739 n_750 dL_copy_13) (by decide) rfl (fun h1767 f1768 w1769 => ?_)
  refine x_iconst (M := M_L_copy) dL_copy_15 ?_
  exact x_iret (M := M_L_copy) dL_copy_16 rfl ⟨rfl, (fr_tr f1768 (fun _ h => nomatch h) fr_rf), trivial⟩ (Nat.le_of_ble_eq_true rfl) (Nat.le_of_ble_eq_true rfl)
set_option maxRecDepth 10000 in
theorem q1783 {l : Launch} {E : EE} (hl : l.stackTraces = false) {h : HP} {a0 : Int32} {a1 : Int32} {dg : Int32} (c0 : ¬ (a0.toInt < 0)) (c1 : ¬ (a0.toInt < 32)) (o1775 : ob h 277 = some (.inr (15, (RB dg)))) : en_C l E M_X12_copy 1 0 0 [.ref 277, .int a0, .int a1] h (pF (some (.int (Int32.ofInt 0))) [277] h (fun h' => ob h' 277 = some (.inr (15, ((RB dg).set 0 (.int (Int32.ofInt 1))))) ∧ True)) := by
  refine en_mk m_X12_copy rfl hl (Nat.le_of_ble_eq_true rfl) ?_
  refine x_aload_n (M := M_X12_copy) dX12_copy_0 rfl ?_
  refine x_iconst (M := M_X12_copy) dX12_copy_1 ?_
  refine y_put (M := M_X12_copy) (ci := 15) (C := RX12) (T := TX12) (N := 135) (ty := tyX12) cl15 dX12_copy_2 o1775 0 (by decide) t_2391 (Or.inl rfl) (Nat.le_of_ble_eq_true rfl) rfl (fun h1776 w1777 f1778 => ?_)
  refine x_aload_n (M := M_X12_copy) dX12_copy_5 rfl ?_
  refine x_iload_n (M := M_X12_copy) dX12_copy_6 rfl ?_
  refine x_callSR (M := M_X12_copy) (M' := M_X12_isSlot) rfl rfl dX12_copy_7 m_X12_isSlot t_2841 t_2842 (q530 hl c0 c1) rfl rfl (Nat.le_of_ble_eq_true rfl) (Nat.le_of_ble_eq_true rfl) (Nat.le_of_ble_eq_true rfl) (Nat.le_of_ble_eq_true rfl) ?_
  refine x_if_eq (M := M_X12_copy) (tgt := 20) dX12_copy_10 (by decide) (fun _ => ?_) (fun q => absurd q (by decide +kernel))
  refine x_iconst (M := M_X12_copy) dX12_copy_20 ?_
  refine x_goto (M := M_X12_copy) (tgt := 25) dX12_copy_21 (by decide) ?_
  refine x_iconst (M := M_X12_copy) dX12_copy_25 ?_
  refine y_callVR (M := M_X12_copy) (M' := M_X12_fails) rfl rfl dX12_copy_26 m_X12_fails t_2805 t_2807 s_157 (q22 hl w1777) rfl rfl w1777 rfl (Nat.le_of_ble_eq_true rfl) (Nat.le_of_ble_eq_true rfl) (Nat.le_of_ble_eq_true rfl) (Nat.le_of_ble_eq_true rfl) (fun h1779 f1780 w1781 => ?_)
  obtain ⟨o1782, -⟩ := w1781
  refine x_if_ne (M := M_X12_copy) (tgt := 53) dX12_copy_29 (by decide) (fun _ => ?_) (fun q => absurd q (by decide +kernel))
  refine x_iconst (M := M_X12_copy) dX12_copy_53 ?_
  exact x_iret (M := M_X12_copy) dX12_copy_54 rfl ⟨rfl, (fr_tr f1780 (by decide) (fr_tr f1778 (by decide) fr_rf)), ⟨o1782, trivial⟩⟩ (Nat.le_of_ble_eq_true rfl) (Nat.le_of_ble_eq_true rfl)
set_option maxRecDepth 10000 in
theorem lc9_4 {l : Launch} {E : EE} (hl : l.stackTraces = false) (nm : String) {xs : Nat → Int32} (hx : E.2.2.2.2 0 = some (7, xs)) {h : HP} {a0 : Int32} {a1 : Int32} {dg : Int32} (e2 : xs 2 = a0) (e3 : xs 3 = a1) (c0 : ¬ (a0.toInt < 0)) (c1 : ¬ (a0.toInt < 32)) (o1771 : ob h 32 = some (.inr (14, [.ref 33, .ref 162, .ref 166, .int (0 : Int32), .int (0 : Int32), .int (0 : Int32), .ref 167, .ref 170, .ref 173, .ref 177, .ref 193, .ref 208, .ref 222, .ref 238, .ref 252, .ref 274, .ref 275, .ref 276, .int (0 : Int32)]))) (o1784 : ob h 277 = some (.inr (15, (RB dg)))) : XX l E (M_law nm) 1312 342628 8074320 (fun o _ => o = .inl (some (.int 1))) 713 [some (.ref 0), some (.ref 32), some (.ref 277), some (.ref 359), some (.int (Int32.ofInt 1)), none, none, none] [] h 328 2463747 := by
  refine x_aload_n (M := (M_law nm)) dL_law_713 rfl ?_
  refine x_aload_n (M := (M_law nm)) dL_law_714 rfl ?_
  refine x_iload (M := (M_law nm)) dL_law_715 rfl ?_
  refine x_iconst (M := (M_law nm)) dL_law_717 ?_
  refine x_iadd (M := (M_law nm)) dL_law_718 ?_
  refine x_sald (M := (M_law nm)) dL_law_719 (by decide) hx (vp_inD (by decide +kernel)) ?_
  refine x_top (M := (M_law nm)) (y := a0) ((congrArg xs (by decide +kernel : ((Int32.ofInt 1) + (Int32.ofInt 1)).toNatClampNeg = 2)).trans e2) ?_
  refine x_aload_n (M := (M_law nm)) dL_law_720 rfl ?_
  refine x_iload (M := (M_law nm)) dL_law_721 rfl ?_
  refine x_iconst (M := (M_law nm)) dL_law_723 ?_
  refine x_iadd (M := (M_law nm)) dL_law_724 ?_
  refine x_sald (M := (M_law nm)) dL_law_725 (by decide) hx (vp_inD (by decide +kernel)) ?_
  refine x_top (M := (M_law nm)) (y := a1) ((congrArg xs (by decide +kernel : ((Int32.ofInt 1) + (Int32.ofInt 2)).toNatClampNeg = 3)).trans e3) ?_
  refine x_aload_n (M := (M_law nm)) dL_law_726 rfl ?_
  refine y_callSW (M := (M_law nm)) (M' := M_L_copy) rfl rfl dL_law_727 m_L_copy t_1143 t_1144 (q1770 hl c0 c1 o1771) rfl rfl (Nat.le_of_ble_eq_true rfl) (Nat.le_of_ble_eq_true rfl) (Nat.le_of_ble_eq_true rfl) (Nat.le_of_ble_eq_true rfl) (fun h1772 f1773 w1774 => ?_)
  refine x_istore (M := (M_law nm)) dL_law_730 (Nat.le_of_ble_eq_true rfl) rfl ?_
  refine x_aload_n (M := (M_law nm)) dL_law_732 rfl ?_
  refine x_aload_n (M := (M_law nm)) dL_law_733 rfl ?_
  refine x_iload (M := (M_law nm)) dL_law_734 rfl ?_
  refine x_iconst (M := (M_law nm)) dL_law_736 ?_
  refine x_iadd (M := (M_law nm)) dL_law_737 ?_
  refine x_sald (M := (M_law nm)) dL_law_738 (by decide) hx (vp_inD (by decide +kernel)) ?_
  refine x_top (M := (M_law nm)) (y := a0) ((congrArg xs (by decide +kernel : ((Int32.ofInt 1) + (Int32.ofInt 1)).toNatClampNeg = 2)).trans e2) ?_
  refine x_aload_n (M := (M_law nm)) dL_law_739 rfl ?_
  refine x_iload (M := (M_law nm)) dL_law_740 rfl ?_
  refine x_iconst (M := (M_law nm)) dL_law_742 ?_
  refine x_iadd (M := (M_law nm)) dL_law_743 ?_
  refine x_sald (M := (M_law nm)) dL_law_744 (by decide) hx (vp_inD (by decide +kernel)) ?_
  refine x_top (M := (M_law nm)) (y := a1) ((congrArg xs (by decide +kernel : ((Int32.ofInt 1) + (Int32.ofInt 2)).toNatClampNeg = 3)).trans e3) ?_
  have o1785 := (f1773 277 _ (by decide) o1784)
  refine y_callVR (M := (M_law nm)) (M' := M_X12_copy) rfl rfl dL_law_745 m_X12_copy t_3094 t_3095 t_3096 (q1783 hl c0 c1 o1785) rfl rfl o1785 rfl (Nat.le_of_ble_eq_true rfl) (Nat.le_of_ble_eq_true rfl) (Nat.le_of_ble_eq_true rfl) (Nat.le_of_ble_eq_true rfl) (fun h1786 f1787 w1788 => ?_)
  obtain ⟨o1789, -⟩ := w1788
  refine x_istore (M := (M_law nm)) dL_law_748 (Nat.le_of_ble_eq_true rfl) rfl ?_
  refine x_aload_n (M := (M_law nm)) dL_law_750 rfl ?_
  refine x_callVR (M := (M_law nm)) (M' := M_X12_thrown) rfl rfl dL_law_751 m_X12_thrown t_2797 t_2798 t_2799 (q35 hl o1789) rfl rfl o1789 rfl (Nat.le_of_ble_eq_true rfl) (Nat.le_of_ble_eq_true rfl) (Nat.le_of_ble_eq_true rfl) (Nat.le_of_ble_eq_true rfl) ?_
  refine x_iload (M := (M_law nm)) dL_law_754 rfl ?_
  refine x_icmp_eq (M := (M_law nm)) (tgt := 761) dL_law_756 (by decide) (fun _ => ?_) (fun q => absurd q (by decide +kernel))
  refine x_iload (M := (M_law nm)) dL_law_761 rfl ?_
  refine x_if_ne (M := (M_law nm)) (tgt := 778) dL_law_763 (by decide) (fun _ => ?_) (fun q => absurd q (by decide +kernel))
  refine x_goto (M := (M_law nm)) (tgt := 2449) dL_law_778 (by decide) ?_
  refine x_iinc (M := (M_law nm)) dL_law_2449 rfl (Nat.le_of_ble_eq_true rfl) rfl ?_
  refine x_lvs (M := (M_law nm)) (lv' := [some (.ref 0), some (.ref 32), some (.ref 277), some (.ref 359), some (.int (Int32.ofInt 7)), some (.int (Int32.ofInt 1)), some (.int (Int32.ofInt 0)), none]) (by rw [(by decide +kernel : (Int32.ofInt 1) + Int32.ofInt 6 = (Int32.ofInt 7))] <;> rfl) ?_
  refine x_goto (M := (M_law nm)) (tgt := 33) dL_law_2452 (by decide) ?_
  refine x_iload (M := (M_law nm)) dL_law_33 rfl ?_
  refine x_aload_n (M := (M_law nm)) dL_law_35 rfl ?_
  refine x_slen (M := (M_law nm)) dL_law_36 (by decide) hx ?_
  refine x_bipush (M := (M_law nm)) dL_law_37 ?_
  refine x_isub (M := (M_law nm)) dL_law_39 ?_
  refine x_icmp_gt (M := (M_law nm)) (tgt := 2455) dL_law_40 (by decide) (fun _ => ?_) (fun q => absurd q (by decide +kernel))
  refine x_iconst (M := (M_law nm)) dL_law_2455 ?_
  exact x_zret (M := (M_law nm)) dL_law_2456 rfl (by decide) rfl (Nat.le_of_ble_eq_true rfl) (Nat.le_of_ble_eq_true rfl)
theorem lop9 {l : Launch} {E : EE} (hl : l.stackTraces = false) (nm : String) {xs : Nat → Int32} (hx : E.2.2.2.2 0 = some (7, xs)) (dg : Int32) : XX l E (M_law nm) 1312 342628 8074320 (fun o _ => o = .inl (some (.int 1))) 713 [some (.ref 0), some (.ref 32), some (.ref 277), some (.ref 359), some (.int (Int32.ofInt 1)), none, none, none] [] (HH dg) 328 2463747 := by
  obtain ⟨a0, e2⟩ : ∃ a : Int32, xs 2 = a := ⟨_, rfl⟩
  obtain ⟨a1, e3⟩ : ∃ a : Int32, xs 3 = a := ⟨_, rfl⟩
  obtain ⟨a2, e4⟩ : ∃ a : Int32, xs 4 = a := ⟨_, rfl⟩
  obtain ⟨a3, e5⟩ : ∃ a : Int32, xs 5 = a := ⟨_, rfl⟩
  obtain ⟨a4, e6⟩ : ∃ a : Int32, xs 6 = a := ⟨_, rfl⟩
  by_cases c0 : a0.toInt < 0
  · exact lc9_0 hl nm hx e2 e3 c0 (o_32 dg) (o_277b dg)
  · by_cases c1 : a0.toInt < 32
    · by_cases c2 : a1.toInt < 0
      · exact lc9_1 hl nm hx e2 e3 c0 c1 c2 (o_32 dg) (o_33 dg) (o_277b dg)
      · by_cases c3 : a1.toInt < 32
        · have n_a0 : a0.toNatClampNeg < 32 := nc_lt (by omega) (by decide)
          exact lc9_2 hl nm hx e2 e3 c0 c1 c2 c3 (o_32 dg) (o_33 dg) (o_sh dg a0.toNatClampNeg n_a0) (o_277b dg) (oMR (dg := dg) (k := 2) rfl)
        · exact lc9_3 hl nm hx e2 e3 c0 c1 c2 c3 (o_32 dg) (o_33 dg) (o_277b dg)
    · exact lc9_4 hl nm hx e2 e3 c0 c1 (o_32 dg) (o_277b dg)
set_option maxRecDepth 10000 in
theorem q1794 {l : Launch} {E : EE} (hl : l.stackTraces = false) {h : HP} {a0 : Int32} {a1 : Int32} (c0 : a0.toInt < 0) (o1790 : ob h 32 = some (.inr (14, [.ref 33, .ref 162, .ref 166, .int (0 : Int32), .int (0 : Int32), .int (0 : Int32), .ref 167, .ref 170, .ref 173, .ref 177, .ref 193, .ref 208, .ref 222, .ref 238, .ref 252, .ref 274, .ref 275, .ref 276, .int (0 : Int32)]))) : en_C l E M_X11_mustBeRelatable 7 1 6 [.ref 32, .int (Int32.ofInt 0), .int a0, .int a1] h (pT "java/lang/IndexOutOfBoundsException" [] h (fun _ => True)) := by
  refine en_mk m_X11_mustBeRelatable rfl hl (Nat.le_of_ble_eq_true rfl) ?_
  refine x_aload_n (M := M_X11_mustBeRelatable) dX11_mustBeRelatable_0 rfl ?_
  refine x_iload_n (M := M_X11_mustBeRelatable) dX11_mustBeRelatable_1 rfl ?_
  exact y_callVX (M := M_X11_mustBeRelatable) (M' := M_X11_slotNumbered) rfl rfl dX11_mustBeRelatable_2 m_X11_slotNumbered t_744 t_746 s_2 (q392 hl c0) rfl rfl o1790 rfl (Nat.le_of_ble_eq_true rfl) (Nat.le_of_ble_eq_true rfl) (Nat.le_of_ble_eq_true rfl) (Nat.le_of_ble_eq_true rfl) (fun h1791 f1792 w1793 => ⟨rfl, (fr_tr f1792 (fun _ h => nomatch h) fr_rf), trivial⟩)
set_option maxRecDepth 10000 in
theorem q1799 {l : Launch} {E : EE} (hl : l.stackTraces = false) {h : HP} {a0 : Int32} {a1 : Int32} (c0 : a0.toInt < 0) (o1795 : ob h 32 = some (.inr (14, [.ref 33, .ref 162, .ref 166, .int (0 : Int32), .int (0 : Int32), .int (0 : Int32), .ref 167, .ref 170, .ref 173, .ref 177, .ref 193, .ref 208, .ref 222, .ref 238, .ref 252, .ref 274, .ref 275, .ref 276, .int (0 : Int32)]))) : en_C l E M_X11_relate 8 1 6 [.ref 32, .int a0, .int a1] h (pT "java/lang/IndexOutOfBoundsException" [] h (fun _ => True)) := by
  refine en_mk m_X11_relate rfl hl (Nat.le_of_ble_eq_true rfl) ?_
  refine x_aload_n (M := M_X11_relate) dX11_relate_0 rfl ?_
  refine x_iconst (M := M_X11_relate) dX11_relate_1 ?_
  refine x_iload_n (M := M_X11_relate) dX11_relate_2 rfl ?_
  refine x_iload_n (M := M_X11_relate) dX11_relate_3 rfl ?_
  exact y_callVX (M := M_X11_relate) (M' := M_X11_mustBeRelatable) rfl rfl dX11_relate_4 m_X11_mustBeRelatable t_1879 t_1881 s_104 (q1794 hl c0 o1795) rfl rfl o1795 rfl (Nat.le_of_ble_eq_true rfl) (Nat.le_of_ble_eq_true rfl) (Nat.le_of_ble_eq_true rfl) (Nat.le_of_ble_eq_true rfl) (fun h1796 f1797 w1798 => ⟨rfl, (fr_tr f1797 (fun _ h => nomatch h) fr_rf), trivial⟩)
set_option maxRecDepth 10000 in
theorem q1804 {l : Launch} {E : EE} (hl : l.stackTraces = false) {h : HP} {a0 : Int32} {a1 : Int32} (c0 : a0.toInt < 0) (o1800 : ob h 32 = some (.inr (14, [.ref 33, .ref 162, .ref 166, .int (0 : Int32), .int (0 : Int32), .int (0 : Int32), .ref 167, .ref 170, .ref 173, .ref 177, .ref 193, .ref 208, .ref 222, .ref 238, .ref 252, .ref 274, .ref 275, .ref 276, .int (0 : Int32)]))) : en_C l E M_L_relate 9 1 6 [.ref 32, .int a0, .int a1, .ref 359] h (pF (some (.int (Int32.ofInt 1))) [] h (fun _ => True)) := by
  refine en_mkW m_L_relate rfl hl (Nat.le_of_ble_eq_true rfl) ?_
  refine x_aload_n (M := M_L_relate) dL_relate_0 rfl ?_
  refine x_iconst (M := M_L_relate) dL_relate_1 ?_
  refine x_aload_n (M := M_L_relate) dL_relate_2 rfl ?_
  refine x_iload_n (M := M_L_relate) dL_relate_3 rfl ?_
  refine x_iload_n (M := M_L_relate) dL_relate_4 rfl ?_
  refine y_callVHX (M := M_L_relate) (M' := M_X11_relate) (i9 := 4) (nx := 15) rfl dL_relate_5 m_X11_relate t_1875 t_1876 t_1877 o1800 rfl (q1799 hl c0 o1800) rfl rfl (Nat.le_of_ble_eq_true rfl) (Nat.le_of_ble_eq_true rfl) (Nat.le_of_ble_eq_true rfl) (Nat.le_of_ble_eq_true rfl) (en_hdm (k0 := 4) [] [(0, 10, 17, 13), (0, 10, 21, 19), (0, 10, 25, 63)] rfl (fun _ h => nomatch h) (by decide +kernel) (by decide) t_739 n_750 dL_relate_13) (by decide) rfl (fun h1801 f1802 w1803 => ?_)
  refine x_iconst (M := M_L_relate) dL_relate_15 ?_
  exact x_iret (M := M_L_relate) dL_relate_16 rfl ⟨rfl, (fr_tr f1802 (fun _ h => nomatch h) fr_rf), trivial⟩ (Nat.le_of_ble_eq_true rfl) (Nat.le_of_ble_eq_true rfl)
set_option maxRecDepth 10000 in
theorem q1817 {l : Launch} {E : EE} (hl : l.stackTraces = false) {h : HP} {a0 : Int32} {a1 : Int32} {dg : Int32} (c0 : a0.toInt < 0) (o1809 : ob h 277 = some (.inr (15, (RB dg)))) : en_C l E M_X12_relate 1 0 0 [.ref 277, .int a0, .int a1] h (pF (some (.int (Int32.ofInt 0))) [277] h (fun h' => ob h' 277 = some (.inr (15, ((RB dg).set 0 (.int (Int32.ofInt 1))))) ∧ True)) := by
  refine en_mk m_X12_relate rfl hl (Nat.le_of_ble_eq_true rfl) ?_
  refine x_aload_n (M := M_X12_relate) dX12_relate_0 rfl ?_
  refine x_iconst (M := M_X12_relate) dX12_relate_1 ?_
  refine y_put (M := M_X12_relate) (ci := 15) (C := RX12) (T := TX12) (N := 135) (ty := tyX12) cl15 dX12_relate_2 o1809 0 (by decide) t_2391 (Or.inl rfl) (Nat.le_of_ble_eq_true rfl) rfl (fun h1810 w1811 f1812 => ?_)
  refine x_aload_n (M := M_X12_relate) dX12_relate_5 rfl ?_
  refine x_iload_n (M := M_X12_relate) dX12_relate_6 rfl ?_
  refine x_callSR (M := M_X12_relate) (M' := M_X12_isSlot) rfl rfl dX12_relate_7 m_X12_isSlot t_2841 t_2842 (q411 hl c0) rfl rfl (Nat.le_of_ble_eq_true rfl) (Nat.le_of_ble_eq_true rfl) (Nat.le_of_ble_eq_true rfl) (Nat.le_of_ble_eq_true rfl) ?_
  refine x_if_eq (M := M_X12_relate) (tgt := 20) dX12_relate_10 (by decide) (fun _ => ?_) (fun q => absurd q (by decide +kernel))
  refine x_iconst (M := M_X12_relate) dX12_relate_20 ?_
  refine x_goto (M := M_X12_relate) (tgt := 25) dX12_relate_21 (by decide) ?_
  refine x_iconst (M := M_X12_relate) dX12_relate_25 ?_
  refine y_callVR (M := M_X12_relate) (M' := M_X12_fails) rfl rfl dX12_relate_26 m_X12_fails t_2805 t_2807 s_157 (q22 hl w1811) rfl rfl w1811 rfl (Nat.le_of_ble_eq_true rfl) (Nat.le_of_ble_eq_true rfl) (Nat.le_of_ble_eq_true rfl) (Nat.le_of_ble_eq_true rfl) (fun h1813 f1814 w1815 => ?_)
  obtain ⟨o1816, -⟩ := w1815
  refine x_if_ne (M := M_X12_relate) (tgt := 61) dX12_relate_29 (by decide) (fun _ => ?_) (fun q => absurd q (by decide +kernel))
  refine x_iconst (M := M_X12_relate) dX12_relate_61 ?_
  exact x_iret (M := M_X12_relate) dX12_relate_62 rfl ⟨rfl, (fr_tr f1814 (by decide) (fr_tr f1812 (by decide) fr_rf)), ⟨o1816, trivial⟩⟩ (Nat.le_of_ble_eq_true rfl) (Nat.le_of_ble_eq_true rfl)
set_option maxRecDepth 10000 in
theorem lc15_0 {l : Launch} {E : EE} (hl : l.stackTraces = false) (nm : String) {xs : Nat → Int32} (hx : E.2.2.2.2 0 = some (7, xs)) {h : HP} {a0 : Int32} {a1 : Int32} {dg : Int32} (e2 : xs 2 = a0) (e3 : xs 3 = a1) (c0 : a0.toInt < 0) (o1805 : ob h 32 = some (.inr (14, [.ref 33, .ref 162, .ref 166, .int (0 : Int32), .int (0 : Int32), .int (0 : Int32), .ref 167, .ref 170, .ref 173, .ref 177, .ref 193, .ref 208, .ref 222, .ref 238, .ref 252, .ref 274, .ref 275, .ref 276, .int (0 : Int32)]))) (o1818 : ob h 277 = some (.inr (15, (RB dg)))) : XX l E (M_law nm) 1312 342628 8074320 (fun o _ => o = .inl (some (.int 1))) 1123 [some (.ref 0), some (.ref 32), some (.ref 277), some (.ref 359), some (.int (Int32.ofInt 1)), none, none, none] [] h 328 2463747 := by
  refine x_aload_n (M := (M_law nm)) dL_law_1123 rfl ?_
  refine x_aload_n (M := (M_law nm)) dL_law_1124 rfl ?_
  refine x_iload (M := (M_law nm)) dL_law_1125 rfl ?_
  refine x_iconst (M := (M_law nm)) dL_law_1127 ?_
  refine x_iadd (M := (M_law nm)) dL_law_1128 ?_
  refine x_sald (M := (M_law nm)) dL_law_1129 (by decide) hx (vp_inD (by decide +kernel)) ?_
  refine x_top (M := (M_law nm)) (y := a0) ((congrArg xs (by decide +kernel : ((Int32.ofInt 1) + (Int32.ofInt 1)).toNatClampNeg = 2)).trans e2) ?_
  refine x_aload_n (M := (M_law nm)) dL_law_1130 rfl ?_
  refine x_iload (M := (M_law nm)) dL_law_1131 rfl ?_
  refine x_iconst (M := (M_law nm)) dL_law_1133 ?_
  refine x_iadd (M := (M_law nm)) dL_law_1134 ?_
  refine x_sald (M := (M_law nm)) dL_law_1135 (by decide) hx (vp_inD (by decide +kernel)) ?_
  refine x_top (M := (M_law nm)) (y := a1) ((congrArg xs (by decide +kernel : ((Int32.ofInt 1) + (Int32.ofInt 2)).toNatClampNeg = 3)).trans e3) ?_
  refine x_aload_n (M := (M_law nm)) dL_law_1136 rfl ?_
  refine y_callSW (M := (M_law nm)) (M' := M_L_relate) rfl rfl dL_law_1137 m_L_relate t_1872 t_1873 (q1804 hl c0 o1805) rfl rfl (Nat.le_of_ble_eq_true rfl) (Nat.le_of_ble_eq_true rfl) (Nat.le_of_ble_eq_true rfl) (Nat.le_of_ble_eq_true rfl) (fun h1806 f1807 w1808 => ?_)
  refine x_istore (M := (M_law nm)) dL_law_1140 (Nat.le_of_ble_eq_true rfl) rfl ?_
  refine x_aload_n (M := (M_law nm)) dL_law_1142 rfl ?_
  refine x_aload_n (M := (M_law nm)) dL_law_1143 rfl ?_
  refine x_iload (M := (M_law nm)) dL_law_1144 rfl ?_
  refine x_iconst (M := (M_law nm)) dL_law_1146 ?_
  refine x_iadd (M := (M_law nm)) dL_law_1147 ?_
  refine x_sald (M := (M_law nm)) dL_law_1148 (by decide) hx (vp_inD (by decide +kernel)) ?_
  refine x_top (M := (M_law nm)) (y := a0) ((congrArg xs (by decide +kernel : ((Int32.ofInt 1) + (Int32.ofInt 1)).toNatClampNeg = 2)).trans e2) ?_
  refine x_aload_n (M := (M_law nm)) dL_law_1149 rfl ?_
  refine x_iload (M := (M_law nm)) dL_law_1150 rfl ?_
  refine x_iconst (M := (M_law nm)) dL_law_1152 ?_
  refine x_iadd (M := (M_law nm)) dL_law_1153 ?_
  refine x_sald (M := (M_law nm)) dL_law_1154 (by decide) hx (vp_inD (by decide +kernel)) ?_
  refine x_top (M := (M_law nm)) (y := a1) ((congrArg xs (by decide +kernel : ((Int32.ofInt 1) + (Int32.ofInt 2)).toNatClampNeg = 3)).trans e3) ?_
  have o1819 := (f1807 277 _ (by decide) o1818)
  refine y_callVR (M := (M_law nm)) (M' := M_X12_relate) rfl rfl dL_law_1155 m_X12_relate t_3486 t_3487 t_3488 (q1817 hl c0 o1819) rfl rfl o1819 rfl (Nat.le_of_ble_eq_true rfl) (Nat.le_of_ble_eq_true rfl) (Nat.le_of_ble_eq_true rfl) (Nat.le_of_ble_eq_true rfl) (fun h1820 f1821 w1822 => ?_)
  obtain ⟨o1823, -⟩ := w1822
  refine x_istore (M := (M_law nm)) dL_law_1158 (Nat.le_of_ble_eq_true rfl) rfl ?_
  refine x_aload_n (M := (M_law nm)) dL_law_1160 rfl ?_
  refine x_callVR (M := (M_law nm)) (M' := M_X12_thrown) rfl rfl dL_law_1161 m_X12_thrown t_2797 t_2798 t_2799 (q35 hl o1823) rfl rfl o1823 rfl (Nat.le_of_ble_eq_true rfl) (Nat.le_of_ble_eq_true rfl) (Nat.le_of_ble_eq_true rfl) (Nat.le_of_ble_eq_true rfl) ?_
  refine x_iload (M := (M_law nm)) dL_law_1164 rfl ?_
  refine x_icmp_eq (M := (M_law nm)) (tgt := 1171) dL_law_1166 (by decide) (fun _ => ?_) (fun q => absurd q (by decide +kernel))
  refine x_iload (M := (M_law nm)) dL_law_1171 rfl ?_
  refine x_if_ne (M := (M_law nm)) (tgt := 1188) dL_law_1173 (by decide) (fun _ => ?_) (fun q => absurd q (by decide +kernel))
  refine x_goto (M := (M_law nm)) (tgt := 2449) dL_law_1188 (by decide) ?_
  refine x_iinc (M := (M_law nm)) dL_law_2449 rfl (Nat.le_of_ble_eq_true rfl) rfl ?_
  refine x_lvs (M := (M_law nm)) (lv' := [some (.ref 0), some (.ref 32), some (.ref 277), some (.ref 359), some (.int (Int32.ofInt 7)), some (.int (Int32.ofInt 1)), some (.int (Int32.ofInt 0)), none]) (by rw [(by decide +kernel : (Int32.ofInt 1) + Int32.ofInt 6 = (Int32.ofInt 7))] <;> rfl) ?_
  refine x_goto (M := (M_law nm)) (tgt := 33) dL_law_2452 (by decide) ?_
  refine x_iload (M := (M_law nm)) dL_law_33 rfl ?_
  refine x_aload_n (M := (M_law nm)) dL_law_35 rfl ?_
  refine x_slen (M := (M_law nm)) dL_law_36 (by decide) hx ?_
  refine x_bipush (M := (M_law nm)) dL_law_37 ?_
  refine x_isub (M := (M_law nm)) dL_law_39 ?_
  refine x_icmp_gt (M := (M_law nm)) (tgt := 2455) dL_law_40 (by decide) (fun _ => ?_) (fun q => absurd q (by decide +kernel))
  refine x_iconst (M := (M_law nm)) dL_law_2455 ?_
  exact x_zret (M := (M_law nm)) dL_law_2456 rfl (by decide) rfl (Nat.le_of_ble_eq_true rfl) (Nat.le_of_ble_eq_true rfl)
set_option maxRecDepth 10000 in
theorem q1831 {l : Launch} {E : EE} (hl : l.stackTraces = false) {h : HP} {a0 : Int32} {a1 : Int32} (c0 : ¬ (a0.toInt < 0)) (c1 : a0.toInt < 32) (c2 : a1.toInt < 0) (o1826 : ob h 32 = some (.inr (14, [.ref 33, .ref 162, .ref 166, .int (0 : Int32), .int (0 : Int32), .int (0 : Int32), .ref 167, .ref 170, .ref 173, .ref 177, .ref 193, .ref 208, .ref 222, .ref 238, .ref 252, .ref 274, .ref 275, .ref 276, .int (0 : Int32)]))) (o1827 : ob h 33 = some (.inl (4, 32, .inr (.inr (.inr (.inr (shf 1 32))))))) : en_C l E M_X11_mustBeRelatable 7 1 6 [.ref 32, .int (Int32.ofInt 0), .int a0, .int a1] h (pT "java/lang/IndexOutOfBoundsException" [] h (fun _ => True)) := by
  refine en_mk m_X11_mustBeRelatable rfl hl (Nat.le_of_ble_eq_true rfl) ?_
  refine x_aload_n (M := M_X11_mustBeRelatable) dX11_mustBeRelatable_0 rfl ?_
  refine x_iload_n (M := M_X11_mustBeRelatable) dX11_mustBeRelatable_1 rfl ?_
  refine x_callVR (M := M_X11_mustBeRelatable) (M' := M_X11_slotNumbered) rfl rfl dX11_mustBeRelatable_2 m_X11_slotNumbered t_744 t_746 s_2 (q425 hl c0 c1 o1826 o1827) rfl rfl o1826 rfl (Nat.le_of_ble_eq_true rfl) (Nat.le_of_ble_eq_true rfl) (Nat.le_of_ble_eq_true rfl) (Nat.le_of_ble_eq_true rfl) ?_
  refine x_astore (M := M_X11_mustBeRelatable) dX11_mustBeRelatable_5 (Nat.le_of_ble_eq_true rfl) rfl ?_
  refine x_aload_n (M := M_X11_mustBeRelatable) dX11_mustBeRelatable_7 rfl ?_
  refine x_iload_n (M := M_X11_mustBeRelatable) dX11_mustBeRelatable_8 rfl ?_
  exact y_callVX (M := M_X11_mustBeRelatable) (M' := M_X11_slotNumbered) rfl rfl dX11_mustBeRelatable_9 m_X11_slotNumbered t_744 t_746 s_2 (q1465 hl c2) rfl rfl o1826 rfl (Nat.le_of_ble_eq_true rfl) (Nat.le_of_ble_eq_true rfl) (Nat.le_of_ble_eq_true rfl) (Nat.le_of_ble_eq_true rfl) (fun h1828 f1829 w1830 => ⟨rfl, (fr_tr f1829 (fun _ h => nomatch h) fr_rf), trivial⟩)
set_option maxRecDepth 10000 in
theorem q1837 {l : Launch} {E : EE} (hl : l.stackTraces = false) {h : HP} {a0 : Int32} {a1 : Int32} (c0 : ¬ (a0.toInt < 0)) (c1 : a0.toInt < 32) (c2 : a1.toInt < 0) (o1832 : ob h 32 = some (.inr (14, [.ref 33, .ref 162, .ref 166, .int (0 : Int32), .int (0 : Int32), .int (0 : Int32), .ref 167, .ref 170, .ref 173, .ref 177, .ref 193, .ref 208, .ref 222, .ref 238, .ref 252, .ref 274, .ref 275, .ref 276, .int (0 : Int32)]))) (o1833 : ob h 33 = some (.inl (4, 32, .inr (.inr (.inr (.inr (shf 1 32))))))) : en_C l E M_X11_relate 8 1 6 [.ref 32, .int a0, .int a1] h (pT "java/lang/IndexOutOfBoundsException" [] h (fun _ => True)) := by
  refine en_mk m_X11_relate rfl hl (Nat.le_of_ble_eq_true rfl) ?_
  refine x_aload_n (M := M_X11_relate) dX11_relate_0 rfl ?_
  refine x_iconst (M := M_X11_relate) dX11_relate_1 ?_
  refine x_iload_n (M := M_X11_relate) dX11_relate_2 rfl ?_
  refine x_iload_n (M := M_X11_relate) dX11_relate_3 rfl ?_
  exact y_callVX (M := M_X11_relate) (M' := M_X11_mustBeRelatable) rfl rfl dX11_relate_4 m_X11_mustBeRelatable t_1879 t_1881 s_104 (q1831 hl c0 c1 c2 o1832 o1833) rfl rfl o1832 rfl (Nat.le_of_ble_eq_true rfl) (Nat.le_of_ble_eq_true rfl) (Nat.le_of_ble_eq_true rfl) (Nat.le_of_ble_eq_true rfl) (fun h1834 f1835 w1836 => ⟨rfl, (fr_tr f1835 (fun _ h => nomatch h) fr_rf), trivial⟩)
set_option maxRecDepth 10000 in
theorem q1843 {l : Launch} {E : EE} (hl : l.stackTraces = false) {h : HP} {a0 : Int32} {a1 : Int32} (c0 : ¬ (a0.toInt < 0)) (c1 : a0.toInt < 32) (c2 : a1.toInt < 0) (o1838 : ob h 32 = some (.inr (14, [.ref 33, .ref 162, .ref 166, .int (0 : Int32), .int (0 : Int32), .int (0 : Int32), .ref 167, .ref 170, .ref 173, .ref 177, .ref 193, .ref 208, .ref 222, .ref 238, .ref 252, .ref 274, .ref 275, .ref 276, .int (0 : Int32)]))) (o1839 : ob h 33 = some (.inl (4, 32, .inr (.inr (.inr (.inr (shf 1 32))))))) : en_C l E M_L_relate 9 1 6 [.ref 32, .int a0, .int a1, .ref 359] h (pF (some (.int (Int32.ofInt 1))) [] h (fun _ => True)) := by
  refine en_mkW m_L_relate rfl hl (Nat.le_of_ble_eq_true rfl) ?_
  refine x_aload_n (M := M_L_relate) dL_relate_0 rfl ?_
  refine x_iconst (M := M_L_relate) dL_relate_1 ?_
  refine x_aload_n (M := M_L_relate) dL_relate_2 rfl ?_
  refine x_iload_n (M := M_L_relate) dL_relate_3 rfl ?_
  refine x_iload_n (M := M_L_relate) dL_relate_4 rfl ?_
  refine y_callVHX (M := M_L_relate) (M' := M_X11_relate) (i9 := 4) (nx := 15) rfl dL_relate_5 m_X11_relate t_1875 t_1876 t_1877 o1838 rfl (q1837 hl c0 c1 c2 o1838 o1839) rfl rfl (Nat.le_of_ble_eq_true rfl) (Nat.le_of_ble_eq_true rfl) (Nat.le_of_ble_eq_true rfl) (Nat.le_of_ble_eq_true rfl) (en_hdm (k0 := 4) [] [(0, 10, 17, 13), (0, 10, 21, 19), (0, 10, 25, 63)] rfl (fun _ h => nomatch h) (by decide +kernel) (by decide) t_739 n_750 dL_relate_13) (by decide) rfl (fun h1840 f1841 w1842 => ?_)
  refine x_iconst (M := M_L_relate) dL_relate_15 ?_
  exact x_iret (M := M_L_relate) dL_relate_16 rfl ⟨rfl, (fr_tr f1841 (fun _ h => nomatch h) fr_rf), trivial⟩ (Nat.le_of_ble_eq_true rfl) (Nat.le_of_ble_eq_true rfl)
set_option maxRecDepth 10000 in
theorem q1857 {l : Launch} {E : EE} (hl : l.stackTraces = false) {h : HP} {a0 : Int32} {a1 : Int32} {dg : Int32} (c0 : ¬ (a0.toInt < 0)) (c1 : a0.toInt < 32) (c2 : a1.toInt < 0) (o1849 : ob h 277 = some (.inr (15, (RB dg)))) : en_C l E M_X12_relate 1 0 0 [.ref 277, .int a0, .int a1] h (pF (some (.int (Int32.ofInt 0))) [277] h (fun h' => ob h' 277 = some (.inr (15, ((RB dg).set 0 (.int (Int32.ofInt 1))))) ∧ True)) := by
  refine en_mk m_X12_relate rfl hl (Nat.le_of_ble_eq_true rfl) ?_
  refine x_aload_n (M := M_X12_relate) dX12_relate_0 rfl ?_
  refine x_iconst (M := M_X12_relate) dX12_relate_1 ?_
  refine y_put (M := M_X12_relate) (ci := 15) (C := RX12) (T := TX12) (N := 135) (ty := tyX12) cl15 dX12_relate_2 o1849 0 (by decide) t_2391 (Or.inl rfl) (Nat.le_of_ble_eq_true rfl) rfl (fun h1850 w1851 f1852 => ?_)
  refine x_aload_n (M := M_X12_relate) dX12_relate_5 rfl ?_
  refine x_iload_n (M := M_X12_relate) dX12_relate_6 rfl ?_
  refine x_callSR (M := M_X12_relate) (M' := M_X12_isSlot) rfl rfl dX12_relate_7 m_X12_isSlot t_2841 t_2842 (q447 hl c0 c1) rfl rfl (Nat.le_of_ble_eq_true rfl) (Nat.le_of_ble_eq_true rfl) (Nat.le_of_ble_eq_true rfl) (Nat.le_of_ble_eq_true rfl) ?_
  refine x_if_eq (M := M_X12_relate) (tgt := 20) dX12_relate_10 (by decide) (fun q => absurd q (by decide +kernel)) (fun _ => ?_)
  refine x_iload_n (M := M_X12_relate) dX12_relate_13 rfl ?_
  refine x_callSR (M := M_X12_relate) (M' := M_X12_isSlot) rfl rfl dX12_relate_14 m_X12_isSlot t_2841 t_2842 (q1485 hl c2) rfl rfl (Nat.le_of_ble_eq_true rfl) (Nat.le_of_ble_eq_true rfl) (Nat.le_of_ble_eq_true rfl) (Nat.le_of_ble_eq_true rfl) ?_
  refine x_if_ne (M := M_X12_relate) (tgt := 24) dX12_relate_17 (by decide) (fun q => absurd q (by decide +kernel)) (fun _ => ?_)
  refine x_iconst (M := M_X12_relate) dX12_relate_20 ?_
  refine x_goto (M := M_X12_relate) (tgt := 25) dX12_relate_21 (by decide) ?_
  refine x_iconst (M := M_X12_relate) dX12_relate_25 ?_
  refine y_callVR (M := M_X12_relate) (M' := M_X12_fails) rfl rfl dX12_relate_26 m_X12_fails t_2805 t_2807 s_157 (q22 hl w1851) rfl rfl w1851 rfl (Nat.le_of_ble_eq_true rfl) (Nat.le_of_ble_eq_true rfl) (Nat.le_of_ble_eq_true rfl) (Nat.le_of_ble_eq_true rfl) (fun h1853 f1854 w1855 => ?_)
  obtain ⟨o1856, -⟩ := w1855
  refine x_if_ne (M := M_X12_relate) (tgt := 61) dX12_relate_29 (by decide) (fun _ => ?_) (fun q => absurd q (by decide +kernel))
  refine x_iconst (M := M_X12_relate) dX12_relate_61 ?_
  exact x_iret (M := M_X12_relate) dX12_relate_62 rfl ⟨rfl, (fr_tr f1854 (by decide) (fr_tr f1852 (by decide) fr_rf)), ⟨o1856, trivial⟩⟩ (Nat.le_of_ble_eq_true rfl) (Nat.le_of_ble_eq_true rfl)
set_option maxRecDepth 10000 in
theorem lc15_1 {l : Launch} {E : EE} (hl : l.stackTraces = false) (nm : String) {xs : Nat → Int32} (hx : E.2.2.2.2 0 = some (7, xs)) {h : HP} {a0 : Int32} {a1 : Int32} {dg : Int32} (e2 : xs 2 = a0) (e3 : xs 3 = a1) (c0 : ¬ (a0.toInt < 0)) (c1 : a0.toInt < 32) (c2 : a1.toInt < 0) (o1844 : ob h 32 = some (.inr (14, [.ref 33, .ref 162, .ref 166, .int (0 : Int32), .int (0 : Int32), .int (0 : Int32), .ref 167, .ref 170, .ref 173, .ref 177, .ref 193, .ref 208, .ref 222, .ref 238, .ref 252, .ref 274, .ref 275, .ref 276, .int (0 : Int32)]))) (o1845 : ob h 33 = some (.inl (4, 32, .inr (.inr (.inr (.inr (shf 1 32))))))) (o1858 : ob h 277 = some (.inr (15, (RB dg)))) : XX l E (M_law nm) 1312 342628 8074320 (fun o _ => o = .inl (some (.int 1))) 1123 [some (.ref 0), some (.ref 32), some (.ref 277), some (.ref 359), some (.int (Int32.ofInt 1)), none, none, none] [] h 328 2463747 := by
  refine x_aload_n (M := (M_law nm)) dL_law_1123 rfl ?_
  refine x_aload_n (M := (M_law nm)) dL_law_1124 rfl ?_
  refine x_iload (M := (M_law nm)) dL_law_1125 rfl ?_
  refine x_iconst (M := (M_law nm)) dL_law_1127 ?_
  refine x_iadd (M := (M_law nm)) dL_law_1128 ?_
  refine x_sald (M := (M_law nm)) dL_law_1129 (by decide) hx (vp_inD (by decide +kernel)) ?_
  refine x_top (M := (M_law nm)) (y := a0) ((congrArg xs (by decide +kernel : ((Int32.ofInt 1) + (Int32.ofInt 1)).toNatClampNeg = 2)).trans e2) ?_
  refine x_aload_n (M := (M_law nm)) dL_law_1130 rfl ?_
  refine x_iload (M := (M_law nm)) dL_law_1131 rfl ?_
  refine x_iconst (M := (M_law nm)) dL_law_1133 ?_
  refine x_iadd (M := (M_law nm)) dL_law_1134 ?_
  refine x_sald (M := (M_law nm)) dL_law_1135 (by decide) hx (vp_inD (by decide +kernel)) ?_
  refine x_top (M := (M_law nm)) (y := a1) ((congrArg xs (by decide +kernel : ((Int32.ofInt 1) + (Int32.ofInt 2)).toNatClampNeg = 3)).trans e3) ?_
  refine x_aload_n (M := (M_law nm)) dL_law_1136 rfl ?_
  refine y_callSW (M := (M_law nm)) (M' := M_L_relate) rfl rfl dL_law_1137 m_L_relate t_1872 t_1873 (q1843 hl c0 c1 c2 o1844 o1845) rfl rfl (Nat.le_of_ble_eq_true rfl) (Nat.le_of_ble_eq_true rfl) (Nat.le_of_ble_eq_true rfl) (Nat.le_of_ble_eq_true rfl) (fun h1846 f1847 w1848 => ?_)
  refine x_istore (M := (M_law nm)) dL_law_1140 (Nat.le_of_ble_eq_true rfl) rfl ?_
  refine x_aload_n (M := (M_law nm)) dL_law_1142 rfl ?_
  refine x_aload_n (M := (M_law nm)) dL_law_1143 rfl ?_
  refine x_iload (M := (M_law nm)) dL_law_1144 rfl ?_
  refine x_iconst (M := (M_law nm)) dL_law_1146 ?_
  refine x_iadd (M := (M_law nm)) dL_law_1147 ?_
  refine x_sald (M := (M_law nm)) dL_law_1148 (by decide) hx (vp_inD (by decide +kernel)) ?_
  refine x_top (M := (M_law nm)) (y := a0) ((congrArg xs (by decide +kernel : ((Int32.ofInt 1) + (Int32.ofInt 1)).toNatClampNeg = 2)).trans e2) ?_
  refine x_aload_n (M := (M_law nm)) dL_law_1149 rfl ?_
  refine x_iload (M := (M_law nm)) dL_law_1150 rfl ?_
  refine x_iconst (M := (M_law nm)) dL_law_1152 ?_
  refine x_iadd (M := (M_law nm)) dL_law_1153 ?_
  refine x_sald (M := (M_law nm)) dL_law_1154 (by decide) hx (vp_inD (by decide +kernel)) ?_
  refine x_top (M := (M_law nm)) (y := a1) ((congrArg xs (by decide +kernel : ((Int32.ofInt 1) + (Int32.ofInt 2)).toNatClampNeg = 3)).trans e3) ?_
  have o1859 := (f1847 277 _ (by decide) o1858)
  refine y_callVR (M := (M_law nm)) (M' := M_X12_relate) rfl rfl dL_law_1155 m_X12_relate t_3486 t_3487 t_3488 (q1857 hl c0 c1 c2 o1859) rfl rfl o1859 rfl (Nat.le_of_ble_eq_true rfl) (Nat.le_of_ble_eq_true rfl) (Nat.le_of_ble_eq_true rfl) (Nat.le_of_ble_eq_true rfl) (fun h1860 f1861 w1862 => ?_)
  obtain ⟨o1863, -⟩ := w1862
  refine x_istore (M := (M_law nm)) dL_law_1158 (Nat.le_of_ble_eq_true rfl) rfl ?_
  refine x_aload_n (M := (M_law nm)) dL_law_1160 rfl ?_
  refine x_callVR (M := (M_law nm)) (M' := M_X12_thrown) rfl rfl dL_law_1161 m_X12_thrown t_2797 t_2798 t_2799 (q35 hl o1863) rfl rfl o1863 rfl (Nat.le_of_ble_eq_true rfl) (Nat.le_of_ble_eq_true rfl) (Nat.le_of_ble_eq_true rfl) (Nat.le_of_ble_eq_true rfl) ?_
  refine x_iload (M := (M_law nm)) dL_law_1164 rfl ?_
  refine x_icmp_eq (M := (M_law nm)) (tgt := 1171) dL_law_1166 (by decide) (fun _ => ?_) (fun q => absurd q (by decide +kernel))
  refine x_iload (M := (M_law nm)) dL_law_1171 rfl ?_
  refine x_if_ne (M := (M_law nm)) (tgt := 1188) dL_law_1173 (by decide) (fun _ => ?_) (fun q => absurd q (by decide +kernel))
  refine x_goto (M := (M_law nm)) (tgt := 2449) dL_law_1188 (by decide) ?_
  refine x_iinc (M := (M_law nm)) dL_law_2449 rfl (Nat.le_of_ble_eq_true rfl) rfl ?_
  refine x_lvs (M := (M_law nm)) (lv' := [some (.ref 0), some (.ref 32), some (.ref 277), some (.ref 359), some (.int (Int32.ofInt 7)), some (.int (Int32.ofInt 1)), some (.int (Int32.ofInt 0)), none]) (by rw [(by decide +kernel : (Int32.ofInt 1) + Int32.ofInt 6 = (Int32.ofInt 7))] <;> rfl) ?_
  refine x_goto (M := (M_law nm)) (tgt := 33) dL_law_2452 (by decide) ?_
  refine x_iload (M := (M_law nm)) dL_law_33 rfl ?_
  refine x_aload_n (M := (M_law nm)) dL_law_35 rfl ?_
  refine x_slen (M := (M_law nm)) dL_law_36 (by decide) hx ?_
  refine x_bipush (M := (M_law nm)) dL_law_37 ?_
  refine x_isub (M := (M_law nm)) dL_law_39 ?_
  refine x_icmp_gt (M := (M_law nm)) (tgt := 2455) dL_law_40 (by decide) (fun _ => ?_) (fun q => absurd q (by decide +kernel))
  refine x_iconst (M := (M_law nm)) dL_law_2455 ?_
  exact x_zret (M := (M_law nm)) dL_law_2456 rfl (by decide) rfl (Nat.le_of_ble_eq_true rfl) (Nat.le_of_ble_eq_true rfl)
set_option maxRecDepth 10000 in
theorem q1872 {l : Launch} {E : EE} (hl : l.stackTraces = false) {h : HP} {a0 : Int32} {a1 : Int32} (c0 : ¬ (a0.toInt < 0)) (c1 : a0.toInt < 32) (c2 : ¬ (a1.toInt < 0)) (c3 : a1.toInt < 32) (o1866 : ob h 32 = some (.inr (14, [.ref 33, .ref 162, .ref 166, .int (0 : Int32), .int (0 : Int32), .int (0 : Int32), .ref 167, .ref 170, .ref 173, .ref 177, .ref 193, .ref 208, .ref 222, .ref 238, .ref 252, .ref 274, .ref 275, .ref 276, .int (0 : Int32)]))) (o1867 : ob h 33 = some (.inl (4, 32, .inr (.inr (.inr (.inr (shf 1 32))))))) (o1868 : ob h (34 + 4 * a0.toNatClampNeg) = some (.inr (9, [.ref (35 + 4 * a0.toNatClampNeg), .ref (36 + 4 * a0.toNatClampNeg), .ref (37 + 4 * a0.toNatClampNeg), .int (0 : Int32), .int (0 : Int32)]))) : en_C l E M_X11_mustBeRelatable 7 1 6 [.ref 32, .int (Int32.ofInt 0), .int a0, .int a1] h (pT "java/lang/IllegalStateException" [] h (fun _ => True)) := by
  have n_a0 : a0.toNatClampNeg < 32 := nc_lt (by omega) (by decide)
  refine en_mk m_X11_mustBeRelatable rfl hl (Nat.le_of_ble_eq_true rfl) ?_
  refine x_aload_n (M := M_X11_mustBeRelatable) dX11_mustBeRelatable_0 rfl ?_
  refine x_iload_n (M := M_X11_mustBeRelatable) dX11_mustBeRelatable_1 rfl ?_
  refine x_callVR (M := M_X11_mustBeRelatable) (M' := M_X11_slotNumbered) rfl rfl dX11_mustBeRelatable_2 m_X11_slotNumbered t_744 t_746 s_2 (q425 hl c0 c1 o1866 o1867) rfl rfl o1866 rfl (Nat.le_of_ble_eq_true rfl) (Nat.le_of_ble_eq_true rfl) (Nat.le_of_ble_eq_true rfl) (Nat.le_of_ble_eq_true rfl) ?_
  refine x_astore (M := M_X11_mustBeRelatable) dX11_mustBeRelatable_5 (Nat.le_of_ble_eq_true rfl) rfl ?_
  refine x_aload_n (M := M_X11_mustBeRelatable) dX11_mustBeRelatable_7 rfl ?_
  refine x_iload_n (M := M_X11_mustBeRelatable) dX11_mustBeRelatable_8 rfl ?_
  refine x_callVR (M := M_X11_mustBeRelatable) (M' := M_X11_slotNumbered) rfl rfl dX11_mustBeRelatable_9 m_X11_slotNumbered t_744 t_746 s_2 (q1503 hl c2 c3 o1866 o1867) rfl rfl o1866 rfl (Nat.le_of_ble_eq_true rfl) (Nat.le_of_ble_eq_true rfl) (Nat.le_of_ble_eq_true rfl) (Nat.le_of_ble_eq_true rfl) ?_
  refine x_astore (M := M_X11_mustBeRelatable) dX11_mustBeRelatable_12 (Nat.le_of_ble_eq_true rfl) rfl ?_
  refine x_aload (M := M_X11_mustBeRelatable) dX11_mustBeRelatable_14 rfl ?_
  exact y_callSX (M := M_X11_mustBeRelatable) (M' := M_X11_mustBeThere) rfl rfl dX11_mustBeRelatable_16 m_X11_mustBeThere t_1047 t_1048 (q810 hl c0 c1 o1868) rfl rfl (Nat.le_of_ble_eq_true rfl) (Nat.le_of_ble_eq_true rfl) (Nat.le_of_ble_eq_true rfl) (Nat.le_of_ble_eq_true rfl) (fun h1869 f1870 w1871 => ⟨rfl, (fr_tr f1870 (fun _ h => nomatch h) fr_rf), trivial⟩)
set_option maxRecDepth 10000 in
theorem q1879 {l : Launch} {E : EE} (hl : l.stackTraces = false) {h : HP} {a0 : Int32} {a1 : Int32} (c0 : ¬ (a0.toInt < 0)) (c1 : a0.toInt < 32) (c2 : ¬ (a1.toInt < 0)) (c3 : a1.toInt < 32) (o1873 : ob h 32 = some (.inr (14, [.ref 33, .ref 162, .ref 166, .int (0 : Int32), .int (0 : Int32), .int (0 : Int32), .ref 167, .ref 170, .ref 173, .ref 177, .ref 193, .ref 208, .ref 222, .ref 238, .ref 252, .ref 274, .ref 275, .ref 276, .int (0 : Int32)]))) (o1874 : ob h 33 = some (.inl (4, 32, .inr (.inr (.inr (.inr (shf 1 32))))))) (o1875 : ob h (34 + 4 * a0.toNatClampNeg) = some (.inr (9, [.ref (35 + 4 * a0.toNatClampNeg), .ref (36 + 4 * a0.toNatClampNeg), .ref (37 + 4 * a0.toNatClampNeg), .int (0 : Int32), .int (0 : Int32)]))) : en_C l E M_X11_relate 8 1 6 [.ref 32, .int a0, .int a1] h (pT "java/lang/IllegalStateException" [] h (fun _ => True)) := by
  have n_a0 : a0.toNatClampNeg < 32 := nc_lt (by omega) (by decide)
  refine en_mk m_X11_relate rfl hl (Nat.le_of_ble_eq_true rfl) ?_
  refine x_aload_n (M := M_X11_relate) dX11_relate_0 rfl ?_
  refine x_iconst (M := M_X11_relate) dX11_relate_1 ?_
  refine x_iload_n (M := M_X11_relate) dX11_relate_2 rfl ?_
  refine x_iload_n (M := M_X11_relate) dX11_relate_3 rfl ?_
  exact y_callVX (M := M_X11_relate) (M' := M_X11_mustBeRelatable) rfl rfl dX11_relate_4 m_X11_mustBeRelatable t_1879 t_1881 s_104 (q1872 hl c0 c1 c2 c3 o1873 o1874 o1875) rfl rfl o1873 rfl (Nat.le_of_ble_eq_true rfl) (Nat.le_of_ble_eq_true rfl) (Nat.le_of_ble_eq_true rfl) (Nat.le_of_ble_eq_true rfl) (fun h1876 f1877 w1878 => ⟨rfl, (fr_tr f1877 (fun _ h => nomatch h) fr_rf), trivial⟩)
set_option maxRecDepth 10000 in
theorem q1886 {l : Launch} {E : EE} (hl : l.stackTraces = false) {h : HP} {a0 : Int32} {a1 : Int32} (c0 : ¬ (a0.toInt < 0)) (c1 : a0.toInt < 32) (c2 : ¬ (a1.toInt < 0)) (c3 : a1.toInt < 32) (o1880 : ob h 32 = some (.inr (14, [.ref 33, .ref 162, .ref 166, .int (0 : Int32), .int (0 : Int32), .int (0 : Int32), .ref 167, .ref 170, .ref 173, .ref 177, .ref 193, .ref 208, .ref 222, .ref 238, .ref 252, .ref 274, .ref 275, .ref 276, .int (0 : Int32)]))) (o1881 : ob h 33 = some (.inl (4, 32, .inr (.inr (.inr (.inr (shf 1 32))))))) (o1882 : ob h (34 + 4 * a0.toNatClampNeg) = some (.inr (9, [.ref (35 + 4 * a0.toNatClampNeg), .ref (36 + 4 * a0.toNatClampNeg), .ref (37 + 4 * a0.toNatClampNeg), .int (0 : Int32), .int (0 : Int32)]))) : en_C l E M_L_relate 9 1 6 [.ref 32, .int a0, .int a1, .ref 359] h (pF (some (.int (Int32.ofInt 2))) [] h (fun _ => True)) := by
  have n_a0 : a0.toNatClampNeg < 32 := nc_lt (by omega) (by decide)
  refine en_mkW m_L_relate rfl hl (Nat.le_of_ble_eq_true rfl) ?_
  refine x_aload_n (M := M_L_relate) dL_relate_0 rfl ?_
  refine x_iconst (M := M_L_relate) dL_relate_1 ?_
  refine x_aload_n (M := M_L_relate) dL_relate_2 rfl ?_
  refine x_iload_n (M := M_L_relate) dL_relate_3 rfl ?_
  refine x_iload_n (M := M_L_relate) dL_relate_4 rfl ?_
  refine y_callVHX (M := M_L_relate) (M' := M_X11_relate) (i9 := 4) (nx := 19) rfl dL_relate_5 m_X11_relate t_1875 t_1876 t_1877 o1880 rfl (q1879 hl c0 c1 c2 c3 o1880 o1881 o1882) rfl rfl (Nat.le_of_ble_eq_true rfl) (Nat.le_of_ble_eq_true rfl) (Nat.le_of_ble_eq_true rfl) (Nat.le_of_ble_eq_true rfl) (en_hdm (k0 := 4) [(0, 10, 13, 24)] [(0, 10, 21, 19), (0, 10, 25, 63)] rfl (List.forall_mem_cons.mpr ⟨⟨by decide, "java/lang/IndexOutOfBoundsException", t_739, by decide +kernel, by decide +kernel, by decide +kernel⟩, (fun _ h => nomatch h)⟩) (by decide +kernel) (by decide) t_637 n_645 dL_relate_17) (by decide) rfl (fun h1883 f1884 w1885 => ?_)
  refine x_iconst (M := M_L_relate) dL_relate_19 ?_
  exact x_iret (M := M_L_relate) dL_relate_20 rfl ⟨rfl, (fr_tr f1884 (fun _ h => nomatch h) fr_rf), trivial⟩ (Nat.le_of_ble_eq_true rfl) (Nat.le_of_ble_eq_true rfl)
set_option maxRecDepth 10000 in
theorem q1907 {l : Launch} {E : EE} (hl : l.stackTraces = false) {h : HP} {a0 : Int32} {a1 : Int32} {dg : Int32} (c0 : ¬ (a0.toInt < 0)) (c1 : a0.toInt < 32) (c2 : ¬ (a1.toInt < 0)) (c3 : a1.toInt < 32) (o1893 : ob h 277 = some (.inr (15, (RB dg)))) (o1901 : ob h 280 = some (.inl (0, 33, .inl (fun _ => 0)))) : en_C l E M_X12_relate 1 0 0 [.ref 277, .int a0, .int a1] h (pF (some (.int (Int32.ofInt 0))) [277] h (fun h' => ob h' 277 = some (.inr (15, ((RB dg).set 0 (.int (Int32.ofInt 2))))) ∧ True)) := by
  refine en_mk m_X12_relate rfl hl (Nat.le_of_ble_eq_true rfl) ?_
  refine x_aload_n (M := M_X12_relate) dX12_relate_0 rfl ?_
  refine x_iconst (M := M_X12_relate) dX12_relate_1 ?_
  refine y_put (M := M_X12_relate) (ci := 15) (C := RX12) (T := TX12) (N := 135) (ty := tyX12) cl15 dX12_relate_2 o1893 0 (by decide) t_2391 (Or.inl rfl) (Nat.le_of_ble_eq_true rfl) rfl (fun h1894 w1895 f1896 => ?_)
  refine x_aload_n (M := M_X12_relate) dX12_relate_5 rfl ?_
  refine x_iload_n (M := M_X12_relate) dX12_relate_6 rfl ?_
  refine x_callSR (M := M_X12_relate) (M' := M_X12_isSlot) rfl rfl dX12_relate_7 m_X12_isSlot t_2841 t_2842 (q447 hl c0 c1) rfl rfl (Nat.le_of_ble_eq_true rfl) (Nat.le_of_ble_eq_true rfl) (Nat.le_of_ble_eq_true rfl) (Nat.le_of_ble_eq_true rfl) ?_
  refine x_if_eq (M := M_X12_relate) (tgt := 20) dX12_relate_10 (by decide) (fun q => absurd q (by decide +kernel)) (fun _ => ?_)
  refine x_iload_n (M := M_X12_relate) dX12_relate_13 rfl ?_
  refine x_callSR (M := M_X12_relate) (M' := M_X12_isSlot) rfl rfl dX12_relate_14 m_X12_isSlot t_2841 t_2842 (q1536 hl c2 c3) rfl rfl (Nat.le_of_ble_eq_true rfl) (Nat.le_of_ble_eq_true rfl) (Nat.le_of_ble_eq_true rfl) (Nat.le_of_ble_eq_true rfl) ?_
  refine x_if_ne (M := M_X12_relate) (tgt := 24) dX12_relate_17 (by decide) (fun _ => ?_) (fun q => absurd q (by decide +kernel))
  refine x_iconst (M := M_X12_relate) dX12_relate_24 ?_
  refine x_iconst (M := M_X12_relate) dX12_relate_25 ?_
  refine y_callVR (M := M_X12_relate) (M' := M_X12_fails) rfl rfl dX12_relate_26 m_X12_fails t_2805 t_2807 s_157 (q241 hl w1895) rfl rfl w1895 rfl (Nat.le_of_ble_eq_true rfl) (Nat.le_of_ble_eq_true rfl) (Nat.le_of_ble_eq_true rfl) (Nat.le_of_ble_eq_true rfl) (fun h1897 f1898 w1899 => ?_)
  obtain ⟨o1900, -⟩ := w1899
  refine x_if_ne (M := M_X12_relate) (tgt := 61) dX12_relate_29 (by decide) (fun q => absurd q (by decide +kernel)) (fun _ => ?_)
  refine x_aload_n (M := M_X12_relate) dX12_relate_32 rfl ?_
  refine x_aload_n (M := M_X12_relate) dX12_relate_33 rfl ?_
  refine x_iload_n (M := M_X12_relate) dX12_relate_34 rfl ?_
  have o1902 := (f1898 280 _ (by decide) (f1896 280 _ (by decide) o1901))
  refine x_callVR (M := M_X12_relate) (M' := M_X12_has) rfl rfl dX12_relate_35 m_X12_has t_3033 t_3035 s_197 (q839 hl c0 c1 o1900 o1902) rfl rfl o1900 rfl (Nat.le_of_ble_eq_true rfl) (Nat.le_of_ble_eq_true rfl) (Nat.le_of_ble_eq_true rfl) (Nat.le_of_ble_eq_true rfl) ?_
  refine x_if_eq (M := M_X12_relate) (tgt := 49) dX12_relate_38 (by decide) (fun _ => ?_) (fun q => absurd q (by decide +kernel))
  refine x_iconst (M := M_X12_relate) dX12_relate_49 ?_
  refine x_goto (M := M_X12_relate) (tgt := 54) dX12_relate_50 (by decide) ?_
  refine x_iconst (M := M_X12_relate) dX12_relate_54 ?_
  refine y_callVR (M := M_X12_relate) (M' := M_X12_fails) rfl rfl dX12_relate_55 m_X12_fails t_2805 t_2807 s_157 (q761 hl o1900) rfl rfl o1900 rfl (Nat.le_of_ble_eq_true rfl) (Nat.le_of_ble_eq_true rfl) (Nat.le_of_ble_eq_true rfl) (Nat.le_of_ble_eq_true rfl) (fun h1903 f1904 w1905 => ?_)
  obtain ⟨o1906, -⟩ := w1905
  refine x_if_eq (M := M_X12_relate) (tgt := 63) dX12_relate_58 (by decide) (fun q => absurd q (by decide +kernel)) (fun _ => ?_)
  refine x_iconst (M := M_X12_relate) dX12_relate_61 ?_
  exact x_iret (M := M_X12_relate) dX12_relate_62 rfl ⟨rfl, (fr_tr f1904 (by decide) (fr_tr f1898 (by decide) (fr_tr f1896 (by decide) fr_rf))), ⟨o1906, trivial⟩⟩ (Nat.le_of_ble_eq_true rfl) (Nat.le_of_ble_eq_true rfl)
set_option maxRecDepth 10000 in
theorem lc15_2 {l : Launch} {E : EE} (hl : l.stackTraces = false) (nm : String) {xs : Nat → Int32} (hx : E.2.2.2.2 0 = some (7, xs)) {h : HP} {a0 : Int32} {a1 : Int32} {dg : Int32} (e2 : xs 2 = a0) (e3 : xs 3 = a1) (c0 : ¬ (a0.toInt < 0)) (c1 : a0.toInt < 32) (c2 : ¬ (a1.toInt < 0)) (c3 : a1.toInt < 32) (o1887 : ob h 32 = some (.inr (14, [.ref 33, .ref 162, .ref 166, .int (0 : Int32), .int (0 : Int32), .int (0 : Int32), .ref 167, .ref 170, .ref 173, .ref 177, .ref 193, .ref 208, .ref 222, .ref 238, .ref 252, .ref 274, .ref 275, .ref 276, .int (0 : Int32)]))) (o1888 : ob h 33 = some (.inl (4, 32, .inr (.inr (.inr (.inr (shf 1 32))))))) (o1889 : ob h (34 + 4 * a0.toNatClampNeg) = some (.inr (9, [.ref (35 + 4 * a0.toNatClampNeg), .ref (36 + 4 * a0.toNatClampNeg), .ref (37 + 4 * a0.toNatClampNeg), .int (0 : Int32), .int (0 : Int32)]))) (o1908 : ob h 277 = some (.inr (15, (RB dg)))) (o1910 : ob h 280 = some (.inl (0, 33, .inl (fun _ => 0)))) : XX l E (M_law nm) 1312 342628 8074320 (fun o _ => o = .inl (some (.int 1))) 1123 [some (.ref 0), some (.ref 32), some (.ref 277), some (.ref 359), some (.int (Int32.ofInt 1)), none, none, none] [] h 328 2463747 := by
  have n_a0 : a0.toNatClampNeg < 32 := nc_lt (by omega) (by decide)
  refine x_aload_n (M := (M_law nm)) dL_law_1123 rfl ?_
  refine x_aload_n (M := (M_law nm)) dL_law_1124 rfl ?_
  refine x_iload (M := (M_law nm)) dL_law_1125 rfl ?_
  refine x_iconst (M := (M_law nm)) dL_law_1127 ?_
  refine x_iadd (M := (M_law nm)) dL_law_1128 ?_
  refine x_sald (M := (M_law nm)) dL_law_1129 (by decide) hx (vp_inD (by decide +kernel)) ?_
  refine x_top (M := (M_law nm)) (y := a0) ((congrArg xs (by decide +kernel : ((Int32.ofInt 1) + (Int32.ofInt 1)).toNatClampNeg = 2)).trans e2) ?_
  refine x_aload_n (M := (M_law nm)) dL_law_1130 rfl ?_
  refine x_iload (M := (M_law nm)) dL_law_1131 rfl ?_
  refine x_iconst (M := (M_law nm)) dL_law_1133 ?_
  refine x_iadd (M := (M_law nm)) dL_law_1134 ?_
  refine x_sald (M := (M_law nm)) dL_law_1135 (by decide) hx (vp_inD (by decide +kernel)) ?_
  refine x_top (M := (M_law nm)) (y := a1) ((congrArg xs (by decide +kernel : ((Int32.ofInt 1) + (Int32.ofInt 2)).toNatClampNeg = 3)).trans e3) ?_
  refine x_aload_n (M := (M_law nm)) dL_law_1136 rfl ?_
  refine y_callSW (M := (M_law nm)) (M' := M_L_relate) rfl rfl dL_law_1137 m_L_relate t_1872 t_1873 (q1886 hl c0 c1 c2 c3 o1887 o1888 o1889) rfl rfl (Nat.le_of_ble_eq_true rfl) (Nat.le_of_ble_eq_true rfl) (Nat.le_of_ble_eq_true rfl) (Nat.le_of_ble_eq_true rfl) (fun h1890 f1891 w1892 => ?_)
  refine x_istore (M := (M_law nm)) dL_law_1140 (Nat.le_of_ble_eq_true rfl) rfl ?_
  refine x_aload_n (M := (M_law nm)) dL_law_1142 rfl ?_
  refine x_aload_n (M := (M_law nm)) dL_law_1143 rfl ?_
  refine x_iload (M := (M_law nm)) dL_law_1144 rfl ?_
  refine x_iconst (M := (M_law nm)) dL_law_1146 ?_
  refine x_iadd (M := (M_law nm)) dL_law_1147 ?_
  refine x_sald (M := (M_law nm)) dL_law_1148 (by decide) hx (vp_inD (by decide +kernel)) ?_
  refine x_top (M := (M_law nm)) (y := a0) ((congrArg xs (by decide +kernel : ((Int32.ofInt 1) + (Int32.ofInt 1)).toNatClampNeg = 2)).trans e2) ?_
  refine x_aload_n (M := (M_law nm)) dL_law_1149 rfl ?_
  refine x_iload (M := (M_law nm)) dL_law_1150 rfl ?_
  refine x_iconst (M := (M_law nm)) dL_law_1152 ?_
  refine x_iadd (M := (M_law nm)) dL_law_1153 ?_
  refine x_sald (M := (M_law nm)) dL_law_1154 (by decide) hx (vp_inD (by decide +kernel)) ?_
  refine x_top (M := (M_law nm)) (y := a1) ((congrArg xs (by decide +kernel : ((Int32.ofInt 1) + (Int32.ofInt 2)).toNatClampNeg = 3)).trans e3) ?_
  have o1909 := (f1891 277 _ (by decide) o1908)
  have o1911 := (f1891 280 _ (by decide) o1910)
  refine y_callVR (M := (M_law nm)) (M' := M_X12_relate) rfl rfl dL_law_1155 m_X12_relate t_3486 t_3487 t_3488 (q1907 hl c0 c1 c2 c3 o1909 o1911) rfl rfl o1909 rfl (Nat.le_of_ble_eq_true rfl) (Nat.le_of_ble_eq_true rfl) (Nat.le_of_ble_eq_true rfl) (Nat.le_of_ble_eq_true rfl) (fun h1912 f1913 w1914 => ?_)
  obtain ⟨o1915, -⟩ := w1914
  refine x_istore (M := (M_law nm)) dL_law_1158 (Nat.le_of_ble_eq_true rfl) rfl ?_
  refine x_aload_n (M := (M_law nm)) dL_law_1160 rfl ?_
  refine x_callVR (M := (M_law nm)) (M' := M_X12_thrown) rfl rfl dL_law_1161 m_X12_thrown t_2797 t_2798 t_2799 (q774 hl o1915) rfl rfl o1915 rfl (Nat.le_of_ble_eq_true rfl) (Nat.le_of_ble_eq_true rfl) (Nat.le_of_ble_eq_true rfl) (Nat.le_of_ble_eq_true rfl) ?_
  refine x_iload (M := (M_law nm)) dL_law_1164 rfl ?_
  refine x_icmp_eq (M := (M_law nm)) (tgt := 1171) dL_law_1166 (by decide) (fun _ => ?_) (fun q => absurd q (by decide +kernel))
  refine x_iload (M := (M_law nm)) dL_law_1171 rfl ?_
  refine x_if_ne (M := (M_law nm)) (tgt := 1188) dL_law_1173 (by decide) (fun _ => ?_) (fun q => absurd q (by decide +kernel))
  refine x_goto (M := (M_law nm)) (tgt := 2449) dL_law_1188 (by decide) ?_
  refine x_iinc (M := (M_law nm)) dL_law_2449 rfl (Nat.le_of_ble_eq_true rfl) rfl ?_
  refine x_lvs (M := (M_law nm)) (lv' := [some (.ref 0), some (.ref 32), some (.ref 277), some (.ref 359), some (.int (Int32.ofInt 7)), some (.int (Int32.ofInt 2)), some (.int (Int32.ofInt 0)), none]) (by rw [(by decide +kernel : (Int32.ofInt 1) + Int32.ofInt 6 = (Int32.ofInt 7))] <;> rfl) ?_
  refine x_goto (M := (M_law nm)) (tgt := 33) dL_law_2452 (by decide) ?_
  refine x_iload (M := (M_law nm)) dL_law_33 rfl ?_
  refine x_aload_n (M := (M_law nm)) dL_law_35 rfl ?_
  refine x_slen (M := (M_law nm)) dL_law_36 (by decide) hx ?_
  refine x_bipush (M := (M_law nm)) dL_law_37 ?_
  refine x_isub (M := (M_law nm)) dL_law_39 ?_
  refine x_icmp_gt (M := (M_law nm)) (tgt := 2455) dL_law_40 (by decide) (fun _ => ?_) (fun q => absurd q (by decide +kernel))
  refine x_iconst (M := (M_law nm)) dL_law_2455 ?_
  exact x_zret (M := (M_law nm)) dL_law_2456 rfl (by decide) rfl (Nat.le_of_ble_eq_true rfl) (Nat.le_of_ble_eq_true rfl)
set_option maxRecDepth 10000 in
theorem q1921 {l : Launch} {E : EE} (hl : l.stackTraces = false) {h : HP} {a0 : Int32} {a1 : Int32} (c0 : ¬ (a0.toInt < 0)) (c1 : a0.toInt < 32) (c2 : ¬ (a1.toInt < 0)) (c3 : ¬ (a1.toInt < 32)) (o1916 : ob h 32 = some (.inr (14, [.ref 33, .ref 162, .ref 166, .int (0 : Int32), .int (0 : Int32), .int (0 : Int32), .ref 167, .ref 170, .ref 173, .ref 177, .ref 193, .ref 208, .ref 222, .ref 238, .ref 252, .ref 274, .ref 275, .ref 276, .int (0 : Int32)]))) (o1917 : ob h 33 = some (.inl (4, 32, .inr (.inr (.inr (.inr (shf 1 32))))))) : en_C l E M_X11_mustBeRelatable 7 1 6 [.ref 32, .int (Int32.ofInt 0), .int a0, .int a1] h (pT "java/lang/IndexOutOfBoundsException" [] h (fun _ => True)) := by
  refine en_mk m_X11_mustBeRelatable rfl hl (Nat.le_of_ble_eq_true rfl) ?_
  refine x_aload_n (M := M_X11_mustBeRelatable) dX11_mustBeRelatable_0 rfl ?_
  refine x_iload_n (M := M_X11_mustBeRelatable) dX11_mustBeRelatable_1 rfl ?_
  refine x_callVR (M := M_X11_mustBeRelatable) (M' := M_X11_slotNumbered) rfl rfl dX11_mustBeRelatable_2 m_X11_slotNumbered t_744 t_746 s_2 (q425 hl c0 c1 o1916 o1917) rfl rfl o1916 rfl (Nat.le_of_ble_eq_true rfl) (Nat.le_of_ble_eq_true rfl) (Nat.le_of_ble_eq_true rfl) (Nat.le_of_ble_eq_true rfl) ?_
  refine x_astore (M := M_X11_mustBeRelatable) dX11_mustBeRelatable_5 (Nat.le_of_ble_eq_true rfl) rfl ?_
  refine x_aload_n (M := M_X11_mustBeRelatable) dX11_mustBeRelatable_7 rfl ?_
  refine x_iload_n (M := M_X11_mustBeRelatable) dX11_mustBeRelatable_8 rfl ?_
  exact y_callVX (M := M_X11_mustBeRelatable) (M' := M_X11_slotNumbered) rfl rfl dX11_mustBeRelatable_9 m_X11_slotNumbered t_744 t_746 s_2 (q1560 hl c2 c3) rfl rfl o1916 rfl (Nat.le_of_ble_eq_true rfl) (Nat.le_of_ble_eq_true rfl) (Nat.le_of_ble_eq_true rfl) (Nat.le_of_ble_eq_true rfl) (fun h1918 f1919 w1920 => ⟨rfl, (fr_tr f1919 (fun _ h => nomatch h) fr_rf), trivial⟩)
set_option maxRecDepth 10000 in
theorem q1927 {l : Launch} {E : EE} (hl : l.stackTraces = false) {h : HP} {a0 : Int32} {a1 : Int32} (c0 : ¬ (a0.toInt < 0)) (c1 : a0.toInt < 32) (c2 : ¬ (a1.toInt < 0)) (c3 : ¬ (a1.toInt < 32)) (o1922 : ob h 32 = some (.inr (14, [.ref 33, .ref 162, .ref 166, .int (0 : Int32), .int (0 : Int32), .int (0 : Int32), .ref 167, .ref 170, .ref 173, .ref 177, .ref 193, .ref 208, .ref 222, .ref 238, .ref 252, .ref 274, .ref 275, .ref 276, .int (0 : Int32)]))) (o1923 : ob h 33 = some (.inl (4, 32, .inr (.inr (.inr (.inr (shf 1 32))))))) : en_C l E M_X11_relate 8 1 6 [.ref 32, .int a0, .int a1] h (pT "java/lang/IndexOutOfBoundsException" [] h (fun _ => True)) := by
  refine en_mk m_X11_relate rfl hl (Nat.le_of_ble_eq_true rfl) ?_
  refine x_aload_n (M := M_X11_relate) dX11_relate_0 rfl ?_
  refine x_iconst (M := M_X11_relate) dX11_relate_1 ?_
  refine x_iload_n (M := M_X11_relate) dX11_relate_2 rfl ?_
  refine x_iload_n (M := M_X11_relate) dX11_relate_3 rfl ?_
  exact y_callVX (M := M_X11_relate) (M' := M_X11_mustBeRelatable) rfl rfl dX11_relate_4 m_X11_mustBeRelatable t_1879 t_1881 s_104 (q1921 hl c0 c1 c2 c3 o1922 o1923) rfl rfl o1922 rfl (Nat.le_of_ble_eq_true rfl) (Nat.le_of_ble_eq_true rfl) (Nat.le_of_ble_eq_true rfl) (Nat.le_of_ble_eq_true rfl) (fun h1924 f1925 w1926 => ⟨rfl, (fr_tr f1925 (fun _ h => nomatch h) fr_rf), trivial⟩)
set_option maxRecDepth 10000 in
theorem q1933 {l : Launch} {E : EE} (hl : l.stackTraces = false) {h : HP} {a0 : Int32} {a1 : Int32} (c0 : ¬ (a0.toInt < 0)) (c1 : a0.toInt < 32) (c2 : ¬ (a1.toInt < 0)) (c3 : ¬ (a1.toInt < 32)) (o1928 : ob h 32 = some (.inr (14, [.ref 33, .ref 162, .ref 166, .int (0 : Int32), .int (0 : Int32), .int (0 : Int32), .ref 167, .ref 170, .ref 173, .ref 177, .ref 193, .ref 208, .ref 222, .ref 238, .ref 252, .ref 274, .ref 275, .ref 276, .int (0 : Int32)]))) (o1929 : ob h 33 = some (.inl (4, 32, .inr (.inr (.inr (.inr (shf 1 32))))))) : en_C l E M_L_relate 9 1 6 [.ref 32, .int a0, .int a1, .ref 359] h (pF (some (.int (Int32.ofInt 1))) [] h (fun _ => True)) := by
  refine en_mkW m_L_relate rfl hl (Nat.le_of_ble_eq_true rfl) ?_
  refine x_aload_n (M := M_L_relate) dL_relate_0 rfl ?_
  refine x_iconst (M := M_L_relate) dL_relate_1 ?_
  refine x_aload_n (M := M_L_relate) dL_relate_2 rfl ?_
  refine x_iload_n (M := M_L_relate) dL_relate_3 rfl ?_
  refine x_iload_n (M := M_L_relate) dL_relate_4 rfl ?_
  refine y_callVHX (M := M_L_relate) (M' := M_X11_relate) (i9 := 4) (nx := 15) rfl dL_relate_5 m_X11_relate t_1875 t_1876 t_1877 o1928 rfl (q1927 hl c0 c1 c2 c3 o1928 o1929) rfl rfl (Nat.le_of_ble_eq_true rfl) (Nat.le_of_ble_eq_true rfl) (Nat.le_of_ble_eq_true rfl) (Nat.le_of_ble_eq_true rfl) (en_hdm (k0 := 4) [] [(0, 10, 17, 13), (0, 10, 21, 19), (0, 10, 25, 63)] rfl (fun _ h => nomatch h) (by decide +kernel) (by decide) t_739 n_750 dL_relate_13) (by decide) rfl (fun h1930 f1931 w1932 => ?_)
  refine x_iconst (M := M_L_relate) dL_relate_15 ?_
  exact x_iret (M := M_L_relate) dL_relate_16 rfl ⟨rfl, (fr_tr f1931 (fun _ h => nomatch h) fr_rf), trivial⟩ (Nat.le_of_ble_eq_true rfl) (Nat.le_of_ble_eq_true rfl)
set_option maxRecDepth 10000 in
theorem q1947 {l : Launch} {E : EE} (hl : l.stackTraces = false) {h : HP} {a0 : Int32} {a1 : Int32} {dg : Int32} (c0 : ¬ (a0.toInt < 0)) (c1 : a0.toInt < 32) (c2 : ¬ (a1.toInt < 0)) (c3 : ¬ (a1.toInt < 32)) (o1939 : ob h 277 = some (.inr (15, (RB dg)))) : en_C l E M_X12_relate 1 0 0 [.ref 277, .int a0, .int a1] h (pF (some (.int (Int32.ofInt 0))) [277] h (fun h' => ob h' 277 = some (.inr (15, ((RB dg).set 0 (.int (Int32.ofInt 1))))) ∧ True)) := by
  refine en_mk m_X12_relate rfl hl (Nat.le_of_ble_eq_true rfl) ?_
  refine x_aload_n (M := M_X12_relate) dX12_relate_0 rfl ?_
  refine x_iconst (M := M_X12_relate) dX12_relate_1 ?_
  refine y_put (M := M_X12_relate) (ci := 15) (C := RX12) (T := TX12) (N := 135) (ty := tyX12) cl15 dX12_relate_2 o1939 0 (by decide) t_2391 (Or.inl rfl) (Nat.le_of_ble_eq_true rfl) rfl (fun h1940 w1941 f1942 => ?_)
  refine x_aload_n (M := M_X12_relate) dX12_relate_5 rfl ?_
  refine x_iload_n (M := M_X12_relate) dX12_relate_6 rfl ?_
  refine x_callSR (M := M_X12_relate) (M' := M_X12_isSlot) rfl rfl dX12_relate_7 m_X12_isSlot t_2841 t_2842 (q447 hl c0 c1) rfl rfl (Nat.le_of_ble_eq_true rfl) (Nat.le_of_ble_eq_true rfl) (Nat.le_of_ble_eq_true rfl) (Nat.le_of_ble_eq_true rfl) ?_
  refine x_if_eq (M := M_X12_relate) (tgt := 20) dX12_relate_10 (by decide) (fun q => absurd q (by decide +kernel)) (fun _ => ?_)
  refine x_iload_n (M := M_X12_relate) dX12_relate_13 rfl ?_
  refine x_callSR (M := M_X12_relate) (M' := M_X12_isSlot) rfl rfl dX12_relate_14 m_X12_isSlot t_2841 t_2842 (q1580 hl c2 c3) rfl rfl (Nat.le_of_ble_eq_true rfl) (Nat.le_of_ble_eq_true rfl) (Nat.le_of_ble_eq_true rfl) (Nat.le_of_ble_eq_true rfl) ?_
  refine x_if_ne (M := M_X12_relate) (tgt := 24) dX12_relate_17 (by decide) (fun q => absurd q (by decide +kernel)) (fun _ => ?_)
  refine x_iconst (M := M_X12_relate) dX12_relate_20 ?_
  refine x_goto (M := M_X12_relate) (tgt := 25) dX12_relate_21 (by decide) ?_
  refine x_iconst (M := M_X12_relate) dX12_relate_25 ?_
  refine y_callVR (M := M_X12_relate) (M' := M_X12_fails) rfl rfl dX12_relate_26 m_X12_fails t_2805 t_2807 s_157 (q22 hl w1941) rfl rfl w1941 rfl (Nat.le_of_ble_eq_true rfl) (Nat.le_of_ble_eq_true rfl) (Nat.le_of_ble_eq_true rfl) (Nat.le_of_ble_eq_true rfl) (fun h1943 f1944 w1945 => ?_)
  obtain ⟨o1946, -⟩ := w1945
  refine x_if_ne (M := M_X12_relate) (tgt := 61) dX12_relate_29 (by decide) (fun _ => ?_) (fun q => absurd q (by decide +kernel))
  refine x_iconst (M := M_X12_relate) dX12_relate_61 ?_
  exact x_iret (M := M_X12_relate) dX12_relate_62 rfl ⟨rfl, (fr_tr f1944 (by decide) (fr_tr f1942 (by decide) fr_rf)), ⟨o1946, trivial⟩⟩ (Nat.le_of_ble_eq_true rfl) (Nat.le_of_ble_eq_true rfl)
set_option maxRecDepth 10000 in
theorem lc15_3 {l : Launch} {E : EE} (hl : l.stackTraces = false) (nm : String) {xs : Nat → Int32} (hx : E.2.2.2.2 0 = some (7, xs)) {h : HP} {a0 : Int32} {a1 : Int32} {dg : Int32} (e2 : xs 2 = a0) (e3 : xs 3 = a1) (c0 : ¬ (a0.toInt < 0)) (c1 : a0.toInt < 32) (c2 : ¬ (a1.toInt < 0)) (c3 : ¬ (a1.toInt < 32)) (o1934 : ob h 32 = some (.inr (14, [.ref 33, .ref 162, .ref 166, .int (0 : Int32), .int (0 : Int32), .int (0 : Int32), .ref 167, .ref 170, .ref 173, .ref 177, .ref 193, .ref 208, .ref 222, .ref 238, .ref 252, .ref 274, .ref 275, .ref 276, .int (0 : Int32)]))) (o1935 : ob h 33 = some (.inl (4, 32, .inr (.inr (.inr (.inr (shf 1 32))))))) (o1948 : ob h 277 = some (.inr (15, (RB dg)))) : XX l E (M_law nm) 1312 342628 8074320 (fun o _ => o = .inl (some (.int 1))) 1123 [some (.ref 0), some (.ref 32), some (.ref 277), some (.ref 359), some (.int (Int32.ofInt 1)), none, none, none] [] h 328 2463747 := by
  refine x_aload_n (M := (M_law nm)) dL_law_1123 rfl ?_
  refine x_aload_n (M := (M_law nm)) dL_law_1124 rfl ?_
  refine x_iload (M := (M_law nm)) dL_law_1125 rfl ?_
  refine x_iconst (M := (M_law nm)) dL_law_1127 ?_
  refine x_iadd (M := (M_law nm)) dL_law_1128 ?_
  refine x_sald (M := (M_law nm)) dL_law_1129 (by decide) hx (vp_inD (by decide +kernel)) ?_
  refine x_top (M := (M_law nm)) (y := a0) ((congrArg xs (by decide +kernel : ((Int32.ofInt 1) + (Int32.ofInt 1)).toNatClampNeg = 2)).trans e2) ?_
  refine x_aload_n (M := (M_law nm)) dL_law_1130 rfl ?_
  refine x_iload (M := (M_law nm)) dL_law_1131 rfl ?_
  refine x_iconst (M := (M_law nm)) dL_law_1133 ?_
  refine x_iadd (M := (M_law nm)) dL_law_1134 ?_
  refine x_sald (M := (M_law nm)) dL_law_1135 (by decide) hx (vp_inD (by decide +kernel)) ?_
  refine x_top (M := (M_law nm)) (y := a1) ((congrArg xs (by decide +kernel : ((Int32.ofInt 1) + (Int32.ofInt 2)).toNatClampNeg = 3)).trans e3) ?_
  refine x_aload_n (M := (M_law nm)) dL_law_1136 rfl ?_
  refine y_callSW (M := (M_law nm)) (M' := M_L_relate) rfl rfl dL_law_1137 m_L_relate t_1872 t_1873 (q1933 hl c0 c1 c2 c3 o1934 o1935) rfl rfl (Nat.le_of_ble_eq_true rfl) (Nat.le_of_ble_eq_true rfl) (Nat.le_of_ble_eq_true rfl) (Nat.le_of_ble_eq_true rfl) (fun h1936 f1937 w1938 => ?_)
  refine x_istore (M := (M_law nm)) dL_law_1140 (Nat.le_of_ble_eq_true rfl) rfl ?_
  refine x_aload_n (M := (M_law nm)) dL_law_1142 rfl ?_
  refine x_aload_n (M := (M_law nm)) dL_law_1143 rfl ?_
  refine x_iload (M := (M_law nm)) dL_law_1144 rfl ?_
  refine x_iconst (M := (M_law nm)) dL_law_1146 ?_
  refine x_iadd (M := (M_law nm)) dL_law_1147 ?_
  refine x_sald (M := (M_law nm)) dL_law_1148 (by decide) hx (vp_inD (by decide +kernel)) ?_
  refine x_top (M := (M_law nm)) (y := a0) ((congrArg xs (by decide +kernel : ((Int32.ofInt 1) + (Int32.ofInt 1)).toNatClampNeg = 2)).trans e2) ?_
  refine x_aload_n (M := (M_law nm)) dL_law_1149 rfl ?_
  refine x_iload (M := (M_law nm)) dL_law_1150 rfl ?_
  refine x_iconst (M := (M_law nm)) dL_law_1152 ?_
  refine x_iadd (M := (M_law nm)) dL_law_1153 ?_
  refine x_sald (M := (M_law nm)) dL_law_1154 (by decide) hx (vp_inD (by decide +kernel)) ?_
  refine x_top (M := (M_law nm)) (y := a1) ((congrArg xs (by decide +kernel : ((Int32.ofInt 1) + (Int32.ofInt 2)).toNatClampNeg = 3)).trans e3) ?_
  have o1949 := (f1937 277 _ (by decide) o1948)
  refine y_callVR (M := (M_law nm)) (M' := M_X12_relate) rfl rfl dL_law_1155 m_X12_relate t_3486 t_3487 t_3488 (q1947 hl c0 c1 c2 c3 o1949) rfl rfl o1949 rfl (Nat.le_of_ble_eq_true rfl) (Nat.le_of_ble_eq_true rfl) (Nat.le_of_ble_eq_true rfl) (Nat.le_of_ble_eq_true rfl) (fun h1950 f1951 w1952 => ?_)
  obtain ⟨o1953, -⟩ := w1952
  refine x_istore (M := (M_law nm)) dL_law_1158 (Nat.le_of_ble_eq_true rfl) rfl ?_
  refine x_aload_n (M := (M_law nm)) dL_law_1160 rfl ?_
  refine x_callVR (M := (M_law nm)) (M' := M_X12_thrown) rfl rfl dL_law_1161 m_X12_thrown t_2797 t_2798 t_2799 (q35 hl o1953) rfl rfl o1953 rfl (Nat.le_of_ble_eq_true rfl) (Nat.le_of_ble_eq_true rfl) (Nat.le_of_ble_eq_true rfl) (Nat.le_of_ble_eq_true rfl) ?_
  refine x_iload (M := (M_law nm)) dL_law_1164 rfl ?_
  refine x_icmp_eq (M := (M_law nm)) (tgt := 1171) dL_law_1166 (by decide) (fun _ => ?_) (fun q => absurd q (by decide +kernel))
  refine x_iload (M := (M_law nm)) dL_law_1171 rfl ?_
  refine x_if_ne (M := (M_law nm)) (tgt := 1188) dL_law_1173 (by decide) (fun _ => ?_) (fun q => absurd q (by decide +kernel))
  refine x_goto (M := (M_law nm)) (tgt := 2449) dL_law_1188 (by decide) ?_
  refine x_iinc (M := (M_law nm)) dL_law_2449 rfl (Nat.le_of_ble_eq_true rfl) rfl ?_
  refine x_lvs (M := (M_law nm)) (lv' := [some (.ref 0), some (.ref 32), some (.ref 277), some (.ref 359), some (.int (Int32.ofInt 7)), some (.int (Int32.ofInt 1)), some (.int (Int32.ofInt 0)), none]) (by rw [(by decide +kernel : (Int32.ofInt 1) + Int32.ofInt 6 = (Int32.ofInt 7))] <;> rfl) ?_
  refine x_goto (M := (M_law nm)) (tgt := 33) dL_law_2452 (by decide) ?_
  refine x_iload (M := (M_law nm)) dL_law_33 rfl ?_
  refine x_aload_n (M := (M_law nm)) dL_law_35 rfl ?_
  refine x_slen (M := (M_law nm)) dL_law_36 (by decide) hx ?_
  refine x_bipush (M := (M_law nm)) dL_law_37 ?_
  refine x_isub (M := (M_law nm)) dL_law_39 ?_
  refine x_icmp_gt (M := (M_law nm)) (tgt := 2455) dL_law_40 (by decide) (fun _ => ?_) (fun q => absurd q (by decide +kernel))
  refine x_iconst (M := (M_law nm)) dL_law_2455 ?_
  exact x_zret (M := (M_law nm)) dL_law_2456 rfl (by decide) rfl (Nat.le_of_ble_eq_true rfl) (Nat.le_of_ble_eq_true rfl)
set_option maxRecDepth 10000 in
theorem q1958 {l : Launch} {E : EE} (hl : l.stackTraces = false) {h : HP} {a0 : Int32} {a1 : Int32} (c0 : ¬ (a0.toInt < 0)) (c1 : ¬ (a0.toInt < 32)) (o1954 : ob h 32 = some (.inr (14, [.ref 33, .ref 162, .ref 166, .int (0 : Int32), .int (0 : Int32), .int (0 : Int32), .ref 167, .ref 170, .ref 173, .ref 177, .ref 193, .ref 208, .ref 222, .ref 238, .ref 252, .ref 274, .ref 275, .ref 276, .int (0 : Int32)]))) : en_C l E M_X11_mustBeRelatable 7 1 6 [.ref 32, .int (Int32.ofInt 0), .int a0, .int a1] h (pT "java/lang/IndexOutOfBoundsException" [] h (fun _ => True)) := by
  refine en_mk m_X11_mustBeRelatable rfl hl (Nat.le_of_ble_eq_true rfl) ?_
  refine x_aload_n (M := M_X11_mustBeRelatable) dX11_mustBeRelatable_0 rfl ?_
  refine x_iload_n (M := M_X11_mustBeRelatable) dX11_mustBeRelatable_1 rfl ?_
  exact y_callVX (M := M_X11_mustBeRelatable) (M' := M_X11_slotNumbered) rfl rfl dX11_mustBeRelatable_2 m_X11_slotNumbered t_744 t_746 s_2 (q511 hl c0 c1) rfl rfl o1954 rfl (Nat.le_of_ble_eq_true rfl) (Nat.le_of_ble_eq_true rfl) (Nat.le_of_ble_eq_true rfl) (Nat.le_of_ble_eq_true rfl) (fun h1955 f1956 w1957 => ⟨rfl, (fr_tr f1956 (fun _ h => nomatch h) fr_rf), trivial⟩)
set_option maxRecDepth 10000 in
theorem q1963 {l : Launch} {E : EE} (hl : l.stackTraces = false) {h : HP} {a0 : Int32} {a1 : Int32} (c0 : ¬ (a0.toInt < 0)) (c1 : ¬ (a0.toInt < 32)) (o1959 : ob h 32 = some (.inr (14, [.ref 33, .ref 162, .ref 166, .int (0 : Int32), .int (0 : Int32), .int (0 : Int32), .ref 167, .ref 170, .ref 173, .ref 177, .ref 193, .ref 208, .ref 222, .ref 238, .ref 252, .ref 274, .ref 275, .ref 276, .int (0 : Int32)]))) : en_C l E M_X11_relate 8 1 6 [.ref 32, .int a0, .int a1] h (pT "java/lang/IndexOutOfBoundsException" [] h (fun _ => True)) := by
  refine en_mk m_X11_relate rfl hl (Nat.le_of_ble_eq_true rfl) ?_
  refine x_aload_n (M := M_X11_relate) dX11_relate_0 rfl ?_
  refine x_iconst (M := M_X11_relate) dX11_relate_1 ?_
  refine x_iload_n (M := M_X11_relate) dX11_relate_2 rfl ?_
  refine x_iload_n (M := M_X11_relate) dX11_relate_3 rfl ?_
  exact y_callVX (M := M_X11_relate) (M' := M_X11_mustBeRelatable) rfl rfl dX11_relate_4 m_X11_mustBeRelatable t_1879 t_1881 s_104 (q1958 hl c0 c1 o1959) rfl rfl o1959 rfl (Nat.le_of_ble_eq_true rfl) (Nat.le_of_ble_eq_true rfl) (Nat.le_of_ble_eq_true rfl) (Nat.le_of_ble_eq_true rfl) (fun h1960 f1961 w1962 => ⟨rfl, (fr_tr f1961 (fun _ h => nomatch h) fr_rf), trivial⟩)
set_option maxRecDepth 10000 in
theorem q1968 {l : Launch} {E : EE} (hl : l.stackTraces = false) {h : HP} {a0 : Int32} {a1 : Int32} (c0 : ¬ (a0.toInt < 0)) (c1 : ¬ (a0.toInt < 32)) (o1964 : ob h 32 = some (.inr (14, [.ref 33, .ref 162, .ref 166, .int (0 : Int32), .int (0 : Int32), .int (0 : Int32), .ref 167, .ref 170, .ref 173, .ref 177, .ref 193, .ref 208, .ref 222, .ref 238, .ref 252, .ref 274, .ref 275, .ref 276, .int (0 : Int32)]))) : en_C l E M_L_relate 9 1 6 [.ref 32, .int a0, .int a1, .ref 359] h (pF (some (.int (Int32.ofInt 1))) [] h (fun _ => True)) := by
  refine en_mkW m_L_relate rfl hl (Nat.le_of_ble_eq_true rfl) ?_
  refine x_aload_n (M := M_L_relate) dL_relate_0 rfl ?_
  refine x_iconst (M := M_L_relate) dL_relate_1 ?_
  refine x_aload_n (M := M_L_relate) dL_relate_2 rfl ?_
  refine x_iload_n (M := M_L_relate) dL_relate_3 rfl ?_
  refine x_iload_n (M := M_L_relate) dL_relate_4 rfl ?_
  refine y_callVHX (M := M_L_relate) (M' := M_X11_relate) (i9 := 4) (nx := 15) rfl dL_relate_5 m_X11_relate t_1875 t_1876 t_1877 o1964 rfl (q1963 hl c0 c1 o1964) rfl rfl (Nat.le_of_ble_eq_true rfl) (Nat.le_of_ble_eq_true rfl) (Nat.le_of_ble_eq_true rfl) (Nat.le_of_ble_eq_true rfl) (en_hdm (k0 := 4) [] [(0, 10, 17, 13), (0, 10, 21, 19), (0, 10, 25, 63)] rfl (fun _ h => nomatch h) (by decide +kernel) (by decide) t_739 n_750 dL_relate_13) (by decide) rfl (fun h1965 f1966 w1967 => ?_)
  refine x_iconst (M := M_L_relate) dL_relate_15 ?_
  exact x_iret (M := M_L_relate) dL_relate_16 rfl ⟨rfl, (fr_tr f1966 (fun _ h => nomatch h) fr_rf), trivial⟩ (Nat.le_of_ble_eq_true rfl) (Nat.le_of_ble_eq_true rfl)
set_option maxRecDepth 10000 in
theorem q1981 {l : Launch} {E : EE} (hl : l.stackTraces = false) {h : HP} {a0 : Int32} {a1 : Int32} {dg : Int32} (c0 : ¬ (a0.toInt < 0)) (c1 : ¬ (a0.toInt < 32)) (o1973 : ob h 277 = some (.inr (15, (RB dg)))) : en_C l E M_X12_relate 1 0 0 [.ref 277, .int a0, .int a1] h (pF (some (.int (Int32.ofInt 0))) [277] h (fun h' => ob h' 277 = some (.inr (15, ((RB dg).set 0 (.int (Int32.ofInt 1))))) ∧ True)) := by
  refine en_mk m_X12_relate rfl hl (Nat.le_of_ble_eq_true rfl) ?_
  refine x_aload_n (M := M_X12_relate) dX12_relate_0 rfl ?_
  refine x_iconst (M := M_X12_relate) dX12_relate_1 ?_
  refine y_put (M := M_X12_relate) (ci := 15) (C := RX12) (T := TX12) (N := 135) (ty := tyX12) cl15 dX12_relate_2 o1973 0 (by decide) t_2391 (Or.inl rfl) (Nat.le_of_ble_eq_true rfl) rfl (fun h1974 w1975 f1976 => ?_)
  refine x_aload_n (M := M_X12_relate) dX12_relate_5 rfl ?_
  refine x_iload_n (M := M_X12_relate) dX12_relate_6 rfl ?_
  refine x_callSR (M := M_X12_relate) (M' := M_X12_isSlot) rfl rfl dX12_relate_7 m_X12_isSlot t_2841 t_2842 (q530 hl c0 c1) rfl rfl (Nat.le_of_ble_eq_true rfl) (Nat.le_of_ble_eq_true rfl) (Nat.le_of_ble_eq_true rfl) (Nat.le_of_ble_eq_true rfl) ?_
  refine x_if_eq (M := M_X12_relate) (tgt := 20) dX12_relate_10 (by decide) (fun _ => ?_) (fun q => absurd q (by decide +kernel))
  refine x_iconst (M := M_X12_relate) dX12_relate_20 ?_
  refine x_goto (M := M_X12_relate) (tgt := 25) dX12_relate_21 (by decide) ?_
  refine x_iconst (M := M_X12_relate) dX12_relate_25 ?_
  refine y_callVR (M := M_X12_relate) (M' := M_X12_fails) rfl rfl dX12_relate_26 m_X12_fails t_2805 t_2807 s_157 (q22 hl w1975) rfl rfl w1975 rfl (Nat.le_of_ble_eq_true rfl) (Nat.le_of_ble_eq_true rfl) (Nat.le_of_ble_eq_true rfl) (Nat.le_of_ble_eq_true rfl) (fun h1977 f1978 w1979 => ?_)
  obtain ⟨o1980, -⟩ := w1979
  refine x_if_ne (M := M_X12_relate) (tgt := 61) dX12_relate_29 (by decide) (fun _ => ?_) (fun q => absurd q (by decide +kernel))
  refine x_iconst (M := M_X12_relate) dX12_relate_61 ?_
  exact x_iret (M := M_X12_relate) dX12_relate_62 rfl ⟨rfl, (fr_tr f1978 (by decide) (fr_tr f1976 (by decide) fr_rf)), ⟨o1980, trivial⟩⟩ (Nat.le_of_ble_eq_true rfl) (Nat.le_of_ble_eq_true rfl)
set_option maxRecDepth 10000 in
theorem lc15_4 {l : Launch} {E : EE} (hl : l.stackTraces = false) (nm : String) {xs : Nat → Int32} (hx : E.2.2.2.2 0 = some (7, xs)) {h : HP} {a0 : Int32} {a1 : Int32} {dg : Int32} (e2 : xs 2 = a0) (e3 : xs 3 = a1) (c0 : ¬ (a0.toInt < 0)) (c1 : ¬ (a0.toInt < 32)) (o1969 : ob h 32 = some (.inr (14, [.ref 33, .ref 162, .ref 166, .int (0 : Int32), .int (0 : Int32), .int (0 : Int32), .ref 167, .ref 170, .ref 173, .ref 177, .ref 193, .ref 208, .ref 222, .ref 238, .ref 252, .ref 274, .ref 275, .ref 276, .int (0 : Int32)]))) (o1982 : ob h 277 = some (.inr (15, (RB dg)))) : XX l E (M_law nm) 1312 342628 8074320 (fun o _ => o = .inl (some (.int 1))) 1123 [some (.ref 0), some (.ref 32), some (.ref 277), some (.ref 359), some (.int (Int32.ofInt 1)), none, none, none] [] h 328 2463747 := by
  refine x_aload_n (M := (M_law nm)) dL_law_1123 rfl ?_
  refine x_aload_n (M := (M_law nm)) dL_law_1124 rfl ?_
  refine x_iload (M := (M_law nm)) dL_law_1125 rfl ?_
  refine x_iconst (M := (M_law nm)) dL_law_1127 ?_
  refine x_iadd (M := (M_law nm)) dL_law_1128 ?_
  refine x_sald (M := (M_law nm)) dL_law_1129 (by decide) hx (vp_inD (by decide +kernel)) ?_
  refine x_top (M := (M_law nm)) (y := a0) ((congrArg xs (by decide +kernel : ((Int32.ofInt 1) + (Int32.ofInt 1)).toNatClampNeg = 2)).trans e2) ?_
  refine x_aload_n (M := (M_law nm)) dL_law_1130 rfl ?_
  refine x_iload (M := (M_law nm)) dL_law_1131 rfl ?_
  refine x_iconst (M := (M_law nm)) dL_law_1133 ?_
  refine x_iadd (M := (M_law nm)) dL_law_1134 ?_
  refine x_sald (M := (M_law nm)) dL_law_1135 (by decide) hx (vp_inD (by decide +kernel)) ?_
  refine x_top (M := (M_law nm)) (y := a1) ((congrArg xs (by decide +kernel : ((Int32.ofInt 1) + (Int32.ofInt 2)).toNatClampNeg = 3)).trans e3) ?_
  refine x_aload_n (M := (M_law nm)) dL_law_1136 rfl ?_
  refine y_callSW (M := (M_law nm)) (M' := M_L_relate) rfl rfl dL_law_1137 m_L_relate t_1872 t_1873 (q1968 hl c0 c1 o1969) rfl rfl (Nat.le_of_ble_eq_true rfl) (Nat.le_of_ble_eq_true rfl) (Nat.le_of_ble_eq_true rfl) (Nat.le_of_ble_eq_true rfl) (fun h1970 f1971 w1972 => ?_)
  refine x_istore (M := (M_law nm)) dL_law_1140 (Nat.le_of_ble_eq_true rfl) rfl ?_
  refine x_aload_n (M := (M_law nm)) dL_law_1142 rfl ?_
  refine x_aload_n (M := (M_law nm)) dL_law_1143 rfl ?_
  refine x_iload (M := (M_law nm)) dL_law_1144 rfl ?_
  refine x_iconst (M := (M_law nm)) dL_law_1146 ?_
  refine x_iadd (M := (M_law nm)) dL_law_1147 ?_
  refine x_sald (M := (M_law nm)) dL_law_1148 (by decide) hx (vp_inD (by decide +kernel)) ?_
  refine x_top (M := (M_law nm)) (y := a0) ((congrArg xs (by decide +kernel : ((Int32.ofInt 1) + (Int32.ofInt 1)).toNatClampNeg = 2)).trans e2) ?_
  refine x_aload_n (M := (M_law nm)) dL_law_1149 rfl ?_
  refine x_iload (M := (M_law nm)) dL_law_1150 rfl ?_
  refine x_iconst (M := (M_law nm)) dL_law_1152 ?_
  refine x_iadd (M := (M_law nm)) dL_law_1153 ?_
  refine x_sald (M := (M_law nm)) dL_law_1154 (by decide) hx (vp_inD (by decide +kernel)) ?_
  refine x_top (M := (M_law nm)) (y := a1) ((congrArg xs (by decide +kernel : ((Int32.ofInt 1) + (Int32.ofInt 2)).toNatClampNeg = 3)).trans e3) ?_
  have o1983 := (f1971 277 _ (by decide) o1982)
  refine y_callVR (M := (M_law nm)) (M' := M_X12_relate) rfl rfl dL_law_1155 m_X12_relate t_3486 t_3487 t_3488 (q1981 hl c0 c1 o1983) rfl rfl o1983 rfl (Nat.le_of_ble_eq_true rfl) (Nat.le_of_ble_eq_true rfl) (Nat.le_of_ble_eq_true rfl) (Nat.le_of_ble_eq_true rfl) (fun h1984 f1985 w1986 => ?_)
  obtain ⟨o1987, -⟩ := w1986
  refine x_istore (M := (M_law nm)) dL_law_1158 (Nat.le_of_ble_eq_true rfl) rfl ?_
  refine x_aload_n (M := (M_law nm)) dL_law_1160 rfl ?_
  refine x_callVR (M := (M_law nm)) (M' := M_X12_thrown) rfl rfl dL_law_1161 m_X12_thrown t_2797 t_2798 t_2799 (q35 hl o1987) rfl rfl o1987 rfl (Nat.le_of_ble_eq_true rfl) (Nat.le_of_ble_eq_true rfl) (Nat.le_of_ble_eq_true rfl) (Nat.le_of_ble_eq_true rfl) ?_
  refine x_iload (M := (M_law nm)) dL_law_1164 rfl ?_
  refine x_icmp_eq (M := (M_law nm)) (tgt := 1171) dL_law_1166 (by decide) (fun _ => ?_) (fun q => absurd q (by decide +kernel))
  refine x_iload (M := (M_law nm)) dL_law_1171 rfl ?_
  refine x_if_ne (M := (M_law nm)) (tgt := 1188) dL_law_1173 (by decide) (fun _ => ?_) (fun q => absurd q (by decide +kernel))
  refine x_goto (M := (M_law nm)) (tgt := 2449) dL_law_1188 (by decide) ?_
  refine x_iinc (M := (M_law nm)) dL_law_2449 rfl (Nat.le_of_ble_eq_true rfl) rfl ?_
  refine x_lvs (M := (M_law nm)) (lv' := [some (.ref 0), some (.ref 32), some (.ref 277), some (.ref 359), some (.int (Int32.ofInt 7)), some (.int (Int32.ofInt 1)), some (.int (Int32.ofInt 0)), none]) (by rw [(by decide +kernel : (Int32.ofInt 1) + Int32.ofInt 6 = (Int32.ofInt 7))] <;> rfl) ?_
  refine x_goto (M := (M_law nm)) (tgt := 33) dL_law_2452 (by decide) ?_
  refine x_iload (M := (M_law nm)) dL_law_33 rfl ?_
  refine x_aload_n (M := (M_law nm)) dL_law_35 rfl ?_
  refine x_slen (M := (M_law nm)) dL_law_36 (by decide) hx ?_
  refine x_bipush (M := (M_law nm)) dL_law_37 ?_
  refine x_isub (M := (M_law nm)) dL_law_39 ?_
  refine x_icmp_gt (M := (M_law nm)) (tgt := 2455) dL_law_40 (by decide) (fun _ => ?_) (fun q => absurd q (by decide +kernel))
  refine x_iconst (M := (M_law nm)) dL_law_2455 ?_
  exact x_zret (M := (M_law nm)) dL_law_2456 rfl (by decide) rfl (Nat.le_of_ble_eq_true rfl) (Nat.le_of_ble_eq_true rfl)
theorem lop15 {l : Launch} {E : EE} (hl : l.stackTraces = false) (nm : String) {xs : Nat → Int32} (hx : E.2.2.2.2 0 = some (7, xs)) (dg : Int32) : XX l E (M_law nm) 1312 342628 8074320 (fun o _ => o = .inl (some (.int 1))) 1123 [some (.ref 0), some (.ref 32), some (.ref 277), some (.ref 359), some (.int (Int32.ofInt 1)), none, none, none] [] (HH dg) 328 2463747 := by
  obtain ⟨a0, e2⟩ : ∃ a : Int32, xs 2 = a := ⟨_, rfl⟩
  obtain ⟨a1, e3⟩ : ∃ a : Int32, xs 3 = a := ⟨_, rfl⟩
  obtain ⟨a2, e4⟩ : ∃ a : Int32, xs 4 = a := ⟨_, rfl⟩
  obtain ⟨a3, e5⟩ : ∃ a : Int32, xs 5 = a := ⟨_, rfl⟩
  obtain ⟨a4, e6⟩ : ∃ a : Int32, xs 6 = a := ⟨_, rfl⟩
  by_cases c0 : a0.toInt < 0
  · exact lc15_0 hl nm hx e2 e3 c0 (o_32 dg) (o_277b dg)
  · by_cases c1 : a0.toInt < 32
    · by_cases c2 : a1.toInt < 0
      · exact lc15_1 hl nm hx e2 e3 c0 c1 c2 (o_32 dg) (o_33 dg) (o_277b dg)
      · by_cases c3 : a1.toInt < 32
        · have n_a0 : a0.toNatClampNeg < 32 := nc_lt (by omega) (by decide)
          exact lc15_2 hl nm hx e2 e3 c0 c1 c2 c3 (o_32 dg) (o_33 dg) (o_sh dg a0.toNatClampNeg n_a0) (o_277b dg) (oMR (dg := dg) (k := 2) rfl)
        · exact lc15_3 hl nm hx e2 e3 c0 c1 c2 c3 (o_32 dg) (o_33 dg) (o_277b dg)
    · exact lc15_4 hl nm hx e2 e3 c0 c1 (o_32 dg) (o_277b dg)
end CAS
