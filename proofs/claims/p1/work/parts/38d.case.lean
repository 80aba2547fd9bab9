section CAS
theorem dL_is_0 : decode cL_is 0 = .ok (.aload 4, 2) := by decide +kernel
theorem dL_is_2 : decode cL_is 2 = .ok (.iconst 0, 1) := by decide +kernel
theorem dL_is_3 : decode cL_is 3 = .ok (.aload_n 0, 1) := by decide +kernel
theorem dL_is_4 : decode cL_is 4 = .ok (.iload_n 1, 1) := by decide +kernel
theorem dL_is_5 : decode cL_is 5 = .ok (.iload_n 2, 1) := by decide +kernel
theorem dL_is_6 : decode cL_is 6 = .ok (.iload_n 3, 1) := by decide +kernel
theorem dL_is_7 : decode cL_is 7 = .ok (.invokevirtual 68, 3) := by decide +kernel
theorem dL_is_22 : decode cL_is 22 = .ok (.astore 5, 2) := by decide +kernel
theorem dL_is_24 : decode cL_is 24 = .ok (.iconst 1, 1) := by decide +kernel
theorem dL_is_25 : decode cL_is 25 = .ok (.ireturn, 1) := by decide +kernel
theorem dL_is_26 : decode cL_is 26 = .ok (.astore 5, 2) := by decide +kernel
theorem dL_is_28 : decode cL_is 28 = .ok (.iconst 2, 1) := by decide +kernel
theorem dL_is_29 : decode cL_is 29 = .ok (.ireturn, 1) := by decide +kernel
theorem dX11_is_0 : decode cX11_is 0 = .ok (.aload_n 0, 1) := by decide +kernel
theorem dX11_is_1 : decode cX11_is 1 = .ok (.iload_n 1, 1) := by decide +kernel
theorem dX11_is_2 : decode cX11_is 2 = .ok (.iload_n 2, 1) := by decide +kernel
theorem dX11_is_3 : decode cX11_is 3 = .ok (.iload_n 3, 1) := by decide +kernel
theorem dX11_is_4 : decode cX11_is 4 = .ok (.invokevirtual 254, 3) := by decide +kernel
theorem dX12_is_0 : decode cX12_is 0 = .ok (.aload_n 0, 1) := by decide +kernel
theorem dX12_is_1 : decode cX12_is 1 = .ok (.iconst 0, 1) := by decide +kernel
theorem dX12_is_2 : decode cX12_is 2 = .ok (.putfield 271, 3) := by decide +kernel
theorem dX12_is_5 : decode cX12_is 5 = .ok (.aload_n 0, 1) := by decide +kernel
theorem dX12_is_6 : decode cX12_is 6 = .ok (.iload_n 2, 1) := by decide +kernel
theorem dX12_is_7 : decode cX12_is 7 = .ok (.invokestatic 440, 3) := by decide +kernel
theorem dX12_is_10 : decode cX12_is 10 = .ok (.ifCond .eq 10, 3) := by decide +kernel
theorem dX12_is_13 : decode cX12_is 13 = .ok (.iload_n 3, 1) := by decide +kernel
theorem dX12_is_14 : decode cX12_is 14 = .ok (.invokestatic 440, 3) := by decide +kernel
theorem dX12_is_17 : decode cX12_is 17 = .ok (.ifCond .ne 7, 3) := by decide +kernel
theorem dX12_is_20 : decode cX12_is 20 = .ok (.iconst 1, 1) := by decide +kernel
theorem dX12_is_21 : decode cX12_is 21 = .ok (.goto 4, 3) := by decide +kernel
theorem dX12_is_24 : decode cX12_is 24 = .ok (.iconst 0, 1) := by decide +kernel
theorem dX12_is_25 : decode cX12_is 25 = .ok (.iconst 1, 1) := by decide +kernel
theorem dX12_is_26 : decode cX12_is 26 = .ok (.invokevirtual 277, 3) := by decide +kernel
theorem dX12_is_29 : decode cX12_is 29 = .ok (.ifCond .ne 32, 3) := by decide +kernel
theorem dX12_is_32 : decode cX12_is 32 = .ok (.aload_n 0, 1) := by decide +kernel
theorem dX12_is_33 : decode cX12_is 33 = .ok (.aload_n 0, 1) := by decide +kernel
theorem dX12_is_34 : decode cX12_is 34 = .ok (.iload_n 2, 1) := by decide +kernel
theorem dX12_is_35 : decode cX12_is 35 = .ok (.invokevirtual 545, 3) := by decide +kernel
theorem dX12_is_38 : decode cX12_is 38 = .ok (.ifCond .eq 11, 3) := by decide +kernel
theorem dX12_is_49 : decode cX12_is 49 = .ok (.iconst 1, 1) := by decide +kernel
theorem dX12_is_50 : decode cX12_is 50 = .ok (.goto 4, 3) := by decide +kernel
theorem dX12_is_54 : decode cX12_is 54 = .ok (.iconst 2, 1) := by decide +kernel
theorem dX12_is_55 : decode cX12_is 55 = .ok (.invokevirtual 277, 3) := by decide +kernel
theorem dX12_is_58 : decode cX12_is 58 = .ok (.ifCond .eq 5, 3) := by decide +kernel
theorem dX12_is_61 : decode cX12_is 61 = .ok (.iconst 0, 1) := by decide +kernel
theorem dX12_is_62 : decode cX12_is 62 = .ok (.ireturn, 1) := by decide +kernel
theorem dL_locate_0 : decode cL_locate 0 = .ok (.aload 4, 2) := by decide +kernel
theorem dL_locate_2 : decode cL_locate 2 = .ok (.iconst 0, 1) := by decide +kernel
theorem dL_locate_3 : decode cL_locate 3 = .ok (.aload_n 0, 1) := by decide +kernel
theorem dL_locate_4 : decode cL_locate 4 = .ok (.iload_n 1, 1) := by decide +kernel
theorem dL_locate_5 : decode cL_locate 5 = .ok (.iload_n 2, 1) := by decide +kernel
theorem dL_locate_6 : decode cL_locate 6 = .ok (.iload_n 3, 1) := by decide +kernel
theorem dL_locate_7 : decode cL_locate 7 = .ok (.invokevirtual 72, 3) := by decide +kernel
theorem dL_locate_15 : decode cL_locate 15 = .ok (.astore 5, 2) := by decide +kernel
theorem dL_locate_17 : decode cL_locate 17 = .ok (.iconst 1, 1) := by decide +kernel
theorem dL_locate_18 : decode cL_locate 18 = .ok (.ireturn, 1) := by decide +kernel
theorem dL_locate_19 : decode cL_locate 19 = .ok (.astore 5, 2) := by decide +kernel
theorem dL_locate_21 : decode cL_locate 21 = .ok (.iconst 2, 1) := by decide +kernel
theorem dL_locate_22 : decode cL_locate 22 = .ok (.ireturn, 1) := by decide +kernel
theorem dX11_locate_0 : decode cX11_locate 0 = .ok (.aload_n 0, 1) := by decide +kernel
theorem dX11_locate_1 : decode cX11_locate 1 = .ok (.iload_n 1, 1) := by decide +kernel
theorem dX11_locate_2 : decode cX11_locate 2 = .ok (.invokevirtual 140, 3) := by decide +kernel
theorem dX11_locate_5 : decode cX11_locate 5 = .ok (.astore 4, 2) := by decide +kernel
theorem dX11_locate_7 : decode cX11_locate 7 = .ok (.aload 4, 2) := by decide +kernel
theorem dX11_locate_9 : decode cX11_locate 9 = .ok (.invokestatic 172, 3) := by decide +kernel
theorem dX12_locate_0 : decode cX12_locate 0 = .ok (.aload_n 0, 1) := by decide +kernel
theorem dX12_locate_1 : decode cX12_locate 1 = .ok (.iconst 0, 1) := by decide +kernel
theorem dX12_locate_2 : decode cX12_locate 2 = .ok (.putfield 271, 3) := by decide +kernel
theorem dX12_locate_5 : decode cX12_locate 5 = .ok (.aload_n 0, 1) := by decide +kernel
theorem dX12_locate_6 : decode cX12_locate 6 = .ok (.iload_n 1, 1) := by decide +kernel
theorem dX12_locate_7 : decode cX12_locate 7 = .ok (.invokestatic 440, 3) := by decide +kernel
theorem dX12_locate_10 : decode cX12_locate 10 = .ok (.ifCond .ne 7, 3) := by decide +kernel
theorem dX12_locate_13 : decode cX12_locate 13 = .ok (.iconst 1, 1) := by decide +kernel
theorem dX12_locate_14 : decode cX12_locate 14 = .ok (.goto 4, 3) := by decide +kernel
theorem dX12_locate_17 : decode cX12_locate 17 = .ok (.iconst 0, 1) := by decide +kernel
theorem dX12_locate_18 : decode cX12_locate 18 = .ok (.iconst 1, 1) := by decide +kernel
theorem dX12_locate_19 : decode cX12_locate 19 = .ok (.invokevirtual 277, 3) := by decide +kernel
theorem dX12_locate_22 : decode cX12_locate 22 = .ok (.ifCond .ne 24, 3) := by decide +kernel
theorem dX12_locate_25 : decode cX12_locate 25 = .ok (.aload_n 0, 1) := by decide +kernel
theorem dX12_locate_26 : decode cX12_locate 26 = .ok (.aload_n 0, 1) := by decide +kernel
theorem dX12_locate_27 : decode cX12_locate 27 = .ok (.iload_n 1, 1) := by decide +kernel
theorem dX12_locate_28 : decode cX12_locate 28 = .ok (.invokevirtual 545, 3) := by decide +kernel
theorem dX12_locate_31 : decode cX12_locate 31 = .ok (.ifCond .ne 7, 3) := by decide +kernel
theorem dX12_locate_34 : decode cX12_locate 34 = .ok (.iconst 1, 1) := by decide +kernel
theorem dX12_locate_35 : decode cX12_locate 35 = .ok (.goto 4, 3) := by decide +kernel
theorem dX12_locate_39 : decode cX12_locate 39 = .ok (.iconst 2, 1) := by decide +kernel
theorem dX12_locate_40 : decode cX12_locate 40 = .ok (.invokevirtual 277, 3) := by decide +kernel
theorem dX12_locate_43 : decode cX12_locate 43 = .ok (.ifCond .eq 5, 3) := by decide +kernel
theorem dX12_locate_46 : decode cX12_locate 46 = .ok (.iconst 0, 1) := by decide +kernel
theorem dX12_locate_47 : decode cX12_locate 47 = .ok (.ireturn, 1) := by decide +kernel
theorem dL_hull_0 : decode cL_hull 0 = .ok (.aload_n 3, 1) := by decide +kernel
theorem dL_hull_1 : decode cL_hull 1 = .ok (.iconst 0, 1) := by decide +kernel
theorem dL_hull_2 : decode cL_hull 2 = .ok (.aload_n 0, 1) := by decide +kernel
theorem dL_hull_3 : decode cL_hull 3 = .ok (.iload_n 1, 1) := by decide +kernel
theorem dL_hull_4 : decode cL_hull 4 = .ok (.iload_n 2, 1) := by decide +kernel
theorem dL_hull_5 : decode cL_hull 5 = .ok (.invokevirtual 76, 3) := by decide +kernel
theorem dL_hull_13 : decode cL_hull 13 = .ok (.astore 4, 2) := by decide +kernel
theorem dL_hull_15 : decode cL_hull 15 = .ok (.iconst 1, 1) := by decide +kernel
theorem dL_hull_16 : decode cL_hull 16 = .ok (.ireturn, 1) := by decide +kernel
theorem dL_hull_17 : decode cL_hull 17 = .ok (.astore 4, 2) := by decide +kernel
theorem dL_hull_19 : decode cL_hull 19 = .ok (.iconst 2, 1) := by decide +kernel
theorem dL_hull_20 : decode cL_hull 20 = .ok (.ireturn, 1) := by decide +kernel
theorem dX11_hull_0 : decode cX11_hull 0 = .ok (.aload_n 0, 1) := by decide +kernel
theorem dX11_hull_1 : decode cX11_hull 1 = .ok (.iload_n 1, 1) := by decide +kernel
theorem dX11_hull_2 : decode cX11_hull 2 = .ok (.invokevirtual 140, 3) := by decide +kernel
theorem dX11_hull_5 : decode cX11_hull 5 = .ok (.astore_n 3, 1) := by decide +kernel
theorem dX11_hull_6 : decode cX11_hull 6 = .ok (.aload_n 0, 1) := by decide +kernel
theorem dX11_hull_7 : decode cX11_hull 7 = .ok (.iload_n 2, 1) := by decide +kernel
theorem dX11_hull_8 : decode cX11_hull 8 = .ok (.invokevirtual 140, 3) := by decide +kernel
theorem dX11_hull_11 : decode cX11_hull 11 = .ok (.astore 4, 2) := by decide +kernel
theorem dX11_hull_13 : decode cX11_hull 13 = .ok (.aload_n 3, 1) := by decide +kernel
theorem dX11_hull_14 : decode cX11_hull 14 = .ok (.invokestatic 172, 3) := by decide +kernel
theorem dX12_hull_0 : decode cX12_hull 0 = .ok (.aload_n 0, 1) := by decide +kernel
theorem dX12_hull_1 : decode cX12_hull 1 = .ok (.iconst 0, 1) := by decide +kernel
theorem dX12_hull_2 : decode cX12_hull 2 = .ok (.putfield 271, 3) := by decide +kernel
theorem dX12_hull_5 : decode cX12_hull 5 = .ok (.aload_n 0, 1) := by decide +kernel
theorem dX12_hull_6 : decode cX12_hull 6 = .ok (.iload_n 1, 1) := by decide +kernel
theorem dX12_hull_7 : decode cX12_hull 7 = .ok (.invokestatic 440, 3) := by decide +kernel
theorem dX12_hull_10 : decode cX12_hull 10 = .ok (.ifCond .eq 10, 3) := by decide +kernel
theorem dX12_hull_13 : decode cX12_hull 13 = .ok (.iload_n 2, 1) := by decide +kernel
theorem dX12_hull_14 : decode cX12_hull 14 = .ok (.invokestatic 440, 3) := by decide +kernel
theorem dX12_hull_17 : decode cX12_hull 17 = .ok (.ifCond .ne 7, 3) := by decide +kernel
theorem dX12_hull_20 : decode cX12_hull 20 = .ok (.iconst 1, 1) := by decide +kernel
theorem dX12_hull_21 : decode cX12_hull 21 = .ok (.goto 4, 3) := by decide +kernel
theorem dX12_hull_24 : decode cX12_hull 24 = .ok (.iconst 0, 1) := by decide +kernel
theorem dX12_hull_25 : decode cX12_hull 25 = .ok (.iconst 1, 1) := by decide +kernel
theorem dX12_hull_26 : decode cX12_hull 26 = .ok (.invokevirtual 277, 3) := by decide +kernel
theorem dX12_hull_29 : decode cX12_hull 29 = .ok (.ifCond .ne 45, 3) := by decide +kernel
theorem dX12_hull_32 : decode cX12_hull 32 = .ok (.aload_n 0, 1) := by decide +kernel
theorem dX12_hull_33 : decode cX12_hull 33 = .ok (.aload_n 0, 1) := by decide +kernel
theorem dX12_hull_34 : decode cX12_hull 34 = .ok (.iload_n 1, 1) := by decide +kernel
theorem dX12_hull_35 : decode cX12_hull 35 = .ok (.invokevirtual 545, 3) := by decide +kernel
theorem dX12_hull_38 : decode cX12_hull 38 = .ok (.ifCond .ne 7, 3) := by decide +kernel
theorem dX12_hull_41 : decode cX12_hull 41 = .ok (.iconst 1, 1) := by decide +kernel
theorem dX12_hull_42 : decode cX12_hull 42 = .ok (.goto 4, 3) := by decide +kernel
theorem dX12_hull_46 : decode cX12_hull 46 = .ok (.iconst 2, 1) := by decide +kernel
theorem dX12_hull_47 : decode cX12_hull 47 = .ok (.invokevirtual 277, 3) := by decide +kernel
theorem dX12_hull_50 : decode cX12_hull 50 = .ok (.ifCond .ne 24, 3) := by decide +kernel
theorem dX12_hull_74 : decode cX12_hull 74 = .ok (.iconst 0, 1) := by decide +kernel
theorem dX12_hull_75 : decode cX12_hull 75 = .ok (.ireturn, 1) := by decide +kernel
theorem dL_triangles_0 : decode cL_triangles 0 = .ok (.aload_n 3, 1) := by decide +kernel
theorem dL_triangles_1 : decode cL_triangles 1 = .ok (.iconst 0, 1) := by decide +kernel
theorem dL_triangles_2 : decode cL_triangles 2 = .ok (.aload_n 0, 1) := by decide +kernel
theorem dL_triangles_3 : decode cL_triangles 3 = .ok (.iload_n 1, 1) := by decide +kernel
theorem dL_triangles_4 : decode cL_triangles 4 = .ok (.iload_n 2, 1) := by decide +kernel
theorem dL_triangles_5 : decode cL_triangles 5 = .ok (.invokevirtual 79, 3) := by decide +kernel
theorem dL_triangles_13 : decode cL_triangles 13 = .ok (.astore 4, 2) := by decide +kernel
theorem dL_triangles_15 : decode cL_triangles 15 = .ok (.iconst 1, 1) := by decide +kernel
theorem dL_triangles_16 : decode cL_triangles 16 = .ok (.ireturn, 1) := by decide +kernel
theorem dL_triangles_17 : decode cL_triangles 17 = .ok (.astore 4, 2) := by decide +kernel
theorem dL_triangles_19 : decode cL_triangles 19 = .ok (.iconst 2, 1) := by decide +kernel
theorem dL_triangles_20 : decode cL_triangles 20 = .ok (.ireturn, 1) := by decide +kernel
theorem dX11_triangles_0 : decode cX11_triangles 0 = .ok (.aload_n 0, 1) := by decide +kernel
theorem dX11_triangles_1 : decode cX11_triangles 1 = .ok (.iload_n 1, 1) := by decide +kernel
theorem dX11_triangles_2 : decode cX11_triangles 2 = .ok (.invokevirtual 140, 3) := by decide +kernel
theorem dX11_triangles_5 : decode cX11_triangles 5 = .ok (.astore_n 3, 1) := by decide +kernel
theorem dX11_triangles_6 : decode cX11_triangles 6 = .ok (.aload_n 0, 1) := by decide +kernel
theorem dX11_triangles_7 : decode cX11_triangles 7 = .ok (.iload_n 2, 1) := by decide +kernel
theorem dX11_triangles_8 : decode cX11_triangles 8 = .ok (.invokevirtual 140, 3) := by decide +kernel
theorem dX11_triangles_11 : decode cX11_triangles 11 = .ok (.astore 4, 2) := by decide +kernel
theorem dX11_triangles_13 : decode cX11_triangles 13 = .ok (.aload_n 3, 1) := by decide +kernel
theorem dX11_triangles_14 : decode cX11_triangles 14 = .ok (.invokestatic 172, 3) := by decide +kernel
theorem dX12_triangles_0 : decode cX12_triangles 0 = .ok (.aload_n 0, 1) := by decide +kernel
theorem dX12_triangles_1 : decode cX12_triangles 1 = .ok (.iconst 0, 1) := by decide +kernel
theorem dX12_triangles_2 : decode cX12_triangles 2 = .ok (.putfield 271, 3) := by decide +kernel
theorem dX12_triangles_5 : decode cX12_triangles 5 = .ok (.aload_n 0, 1) := by decide +kernel
theorem dX12_triangles_6 : decode cX12_triangles 6 = .ok (.iload_n 1, 1) := by decide +kernel
theorem dX12_triangles_7 : decode cX12_triangles 7 = .ok (.invokestatic 440, 3) := by decide +kernel
theorem dX12_triangles_10 : decode cX12_triangles 10 = .ok (.ifCond .eq 10, 3) := by decide +kernel
theorem dX12_triangles_13 : decode cX12_triangles 13 = .ok (.iload_n 2, 1) := by decide +kernel
theorem dX12_triangles_14 : decode cX12_triangles 14 = .ok (.invokestatic 440, 3) := by decide +kernel
theorem dX12_triangles_17 : decode cX12_triangles 17 = .ok (.ifCond .ne 7, 3) := by decide +kernel
theorem dX12_triangles_20 : decode cX12_triangles 20 = .ok (.iconst 1, 1) := by decide +kernel
theorem dX12_triangles_21 : decode cX12_triangles 21 = .ok (.goto 4, 3) := by decide +kernel
theorem dX12_triangles_24 : decode cX12_triangles 24 = .ok (.iconst 0, 1) := by decide +kernel
theorem dX12_triangles_25 : decode cX12_triangles 25 = .ok (.iconst 1, 1) := by decide +kernel
theorem dX12_triangles_26 : decode cX12_triangles 26 = .ok (.invokevirtual 277, 3) := by decide +kernel
theorem dX12_triangles_29 : decode cX12_triangles 29 = .ok (.ifCond .ne 45, 3) := by decide +kernel
theorem dX12_triangles_32 : decode cX12_triangles 32 = .ok (.aload_n 0, 1) := by decide +kernel
theorem dX12_triangles_33 : decode cX12_triangles 33 = .ok (.aload_n 0, 1) := by decide +kernel
theorem dX12_triangles_34 : decode cX12_triangles 34 = .ok (.iload_n 1, 1) := by decide +kernel
theorem dX12_triangles_35 : decode cX12_triangles 35 = .ok (.invokevirtual 545, 3) := by decide +kernel
theorem dX12_triangles_38 : decode cX12_triangles 38 = .ok (.ifCond .ne 7, 3) := by decide +kernel
theorem dX12_triangles_41 : decode cX12_triangles 41 = .ok (.iconst 1, 1) := by decide +kernel
theorem dX12_triangles_42 : decode cX12_triangles 42 = .ok (.goto 4, 3) := by decide +kernel
theorem dX12_triangles_46 : decode cX12_triangles 46 = .ok (.iconst 2, 1) := by decide +kernel
theorem dX12_triangles_47 : decode cX12_triangles 47 = .ok (.invokevirtual 277, 3) := by decide +kernel
theorem dX12_triangles_50 : decode cX12_triangles 50 = .ok (.ifCond .ne 24, 3) := by decide +kernel
theorem dX12_triangles_74 : decode cX12_triangles 74 = .ok (.iconst 0, 1) := by decide +kernel
theorem dX12_triangles_75 : decode cX12_triangles 75 = .ok (.ireturn, 1) := by decide +kernel
theorem dL_simplify_0 : decode cL_simplify 0 = .ok (.aload 4, 2) := by decide +kernel
theorem dL_simplify_2 : decode cL_simplify 2 = .ok (.iconst 0, 1) := by decide +kernel
theorem dL_simplify_3 : decode cL_simplify 3 = .ok (.aload_n 0, 1) := by decide +kernel
theorem dL_simplify_4 : decode cL_simplify 4 = .ok (.iload_n 1, 1) := by decide +kernel
theorem dL_simplify_5 : decode cL_simplify 5 = .ok (.iload_n 2, 1) := by decide +kernel
theorem dL_simplify_6 : decode cL_simplify 6 = .ok (.iload_n 3, 1) := by decide +kernel
theorem dL_simplify_7 : decode cL_simplify 7 = .ok (.invokevirtual 82, 3) := by decide +kernel
theorem dL_simplify_15 : decode cL_simplify 15 = .ok (.astore 5, 2) := by decide +kernel
theorem dL_simplify_17 : decode cL_simplify 17 = .ok (.iconst 1, 1) := by decide +kernel
theorem dL_simplify_18 : decode cL_simplify 18 = .ok (.ireturn, 1) := by decide +kernel
theorem dL_simplify_19 : decode cL_simplify 19 = .ok (.astore 5, 2) := by decide +kernel
theorem dL_simplify_21 : decode cL_simplify 21 = .ok (.iconst 2, 1) := by decide +kernel
theorem dL_simplify_22 : decode cL_simplify 22 = .ok (.ireturn, 1) := by decide +kernel
theorem dX11_simplify_0 : decode cX11_simplify 0 = .ok (.aload_n 0, 1) := by decide +kernel
theorem dX11_simplify_1 : decode cX11_simplify 1 = .ok (.iload_n 1, 1) := by decide +kernel
theorem dX11_simplify_2 : decode cX11_simplify 2 = .ok (.invokevirtual 140, 3) := by decide +kernel
theorem dX11_simplify_5 : decode cX11_simplify 5 = .ok (.astore 4, 2) := by decide +kernel
theorem dX11_simplify_7 : decode cX11_simplify 7 = .ok (.aload_n 0, 1) := by decide +kernel
theorem dX11_simplify_8 : decode cX11_simplify 8 = .ok (.iload_n 2, 1) := by decide +kernel
theorem dX11_simplify_9 : decode cX11_simplify 9 = .ok (.invokevirtual 140, 3) := by decide +kernel
theorem dX11_simplify_12 : decode cX11_simplify 12 = .ok (.astore 5, 2) := by decide +kernel
theorem dX11_simplify_14 : decode cX11_simplify 14 = .ok (.aload 4, 2) := by decide +kernel
theorem dX11_simplify_16 : decode cX11_simplify 16 = .ok (.invokestatic 172, 3) := by decide +kernel
theorem dX12_simplify_0 : decode cX12_simplify 0 = .ok (.aload_n 0, 1) := by decide +kernel
theorem dX12_simplify_1 : decode cX12_simplify 1 = .ok (.iconst 0, 1) := by decide +kernel
theorem dX12_simplify_2 : decode cX12_simplify 2 = .ok (.putfield 271, 3) := by decide +kernel
theorem dX12_simplify_5 : decode cX12_simplify 5 = .ok (.aload_n 0, 1) := by decide +kernel
theorem dX12_simplify_6 : decode cX12_simplify 6 = .ok (.iload_n 1, 1) := by decide +kernel
theorem dX12_simplify_7 : decode cX12_simplify 7 = .ok (.invokestatic 440, 3) := by decide +kernel
theorem dX12_simplify_10 : decode cX12_simplify 10 = .ok (.ifCond .eq 10, 3) := by decide +kernel
theorem dX12_simplify_13 : decode cX12_simplify 13 = .ok (.iload_n 2, 1) := by decide +kernel
theorem dX12_simplify_14 : decode cX12_simplify 14 = .ok (.invokestatic 440, 3) := by decide +kernel
theorem dX12_simplify_17 : decode cX12_simplify 17 = .ok (.ifCond .ne 7, 3) := by decide +kernel
theorem dX12_simplify_20 : decode cX12_simplify 20 = .ok (.iconst 1, 1) := by decide +kernel
theorem dX12_simplify_21 : decode cX12_simplify 21 = .ok (.goto 4, 3) := by decide +kernel
theorem dX12_simplify_24 : decode cX12_simplify 24 = .ok (.iconst 0, 1) := by decide +kernel
theorem dX12_simplify_25 : decode cX12_simplify 25 = .ok (.iconst 1, 1) := by decide +kernel
theorem dX12_simplify_26 : decode cX12_simplify 26 = .ok (.invokevirtual 277, 3) := by decide +kernel
theorem dX12_simplify_29 : decode cX12_simplify 29 = .ok (.ifCond .ne 49, 3) := by decide +kernel
theorem dX12_simplify_32 : decode cX12_simplify 32 = .ok (.aload_n 0, 1) := by decide +kernel
theorem dX12_simplify_33 : decode cX12_simplify 33 = .ok (.aload_n 0, 1) := by decide +kernel
theorem dX12_simplify_34 : decode cX12_simplify 34 = .ok (.iload_n 1, 1) := by decide +kernel
theorem dX12_simplify_35 : decode cX12_simplify 35 = .ok (.invokevirtual 545, 3) := by decide +kernel
theorem dX12_simplify_38 : decode cX12_simplify 38 = .ok (.ifCond .ne 7, 3) := by decide +kernel
theorem dX12_simplify_41 : decode cX12_simplify 41 = .ok (.iconst 1, 1) := by decide +kernel
theorem dX12_simplify_42 : decode cX12_simplify 42 = .ok (.goto 4, 3) := by decide +kernel
theorem dX12_simplify_46 : decode cX12_simplify 46 = .ok (.iconst 2, 1) := by decide +kernel
theorem dX12_simplify_47 : decode cX12_simplify 47 = .ok (.invokevirtual 277, 3) := by decide +kernel
theorem dX12_simplify_50 : decode cX12_simplify 50 = .ok (.ifCond .ne 28, 3) := by decide +kernel
theorem dX12_simplify_78 : decode cX12_simplify 78 = .ok (.iconst 0, 1) := by decide +kernel
theorem dX12_simplify_79 : decode cX12_simplify 79 = .ok (.ireturn, 1) := by decide +kernel
theorem dL_overlay_0 : decode cL_overlay 0 = .ok (.aload 5, 2) := by decide +kernel
theorem dL_overlay_2 : decode cL_overlay 2 = .ok (.iconst 0, 1) := by decide +kernel
theorem dL_overlay_3 : decode cL_overlay 3 = .ok (.aload_n 0, 1) := by decide +kernel
theorem dL_overlay_4 : decode cL_overlay 4 = .ok (.iload_n 1, 1) := by decide +kernel
theorem dL_overlay_5 : decode cL_overlay 5 = .ok (.iload_n 2, 1) := by decide +kernel
theorem dL_overlay_6 : decode cL_overlay 6 = .ok (.iload_n 3, 1) := by decide +kernel
theorem dL_overlay_7 : decode cL_overlay 7 = .ok (.iload 4, 2) := by decide +kernel
theorem dL_overlay_9 : decode cL_overlay 9 = .ok (.invokevirtual 59, 3) := by decide +kernel
theorem dL_overlay_17 : decode cL_overlay 17 = .ok (.astore 6, 2) := by decide +kernel
theorem dL_overlay_19 : decode cL_overlay 19 = .ok (.iconst 1, 1) := by decide +kernel
theorem dL_overlay_20 : decode cL_overlay 20 = .ok (.ireturn, 1) := by decide +kernel
theorem dL_overlay_21 : decode cL_overlay 21 = .ok (.astore 6, 2) := by decide +kernel
theorem dL_overlay_23 : decode cL_overlay 23 = .ok (.iconst 2, 1) := by decide +kernel
theorem dL_overlay_24 : decode cL_overlay 24 = .ok (.ireturn, 1) := by decide +kernel
theorem dX11_overlay_0 : decode cX11_overlay 0 = .ok (.aload_n 0, 1) := by decide +kernel
theorem dX11_overlay_1 : decode cX11_overlay 1 = .ok (.iload_n 2, 1) := by decide +kernel
theorem dX11_overlay_2 : decode cX11_overlay 2 = .ok (.invokevirtual 140, 3) := by decide +kernel
theorem dX11_overlay_5 : decode cX11_overlay 5 = .ok (.astore 5, 2) := by decide +kernel
theorem dX11_overlay_7 : decode cX11_overlay 7 = .ok (.aload_n 0, 1) := by decide +kernel
theorem dX11_overlay_8 : decode cX11_overlay 8 = .ok (.iload_n 3, 1) := by decide +kernel
theorem dX11_overlay_9 : decode cX11_overlay 9 = .ok (.invokevirtual 140, 3) := by decide +kernel
theorem dX11_overlay_12 : decode cX11_overlay 12 = .ok (.astore 6, 2) := by decide +kernel
theorem dX11_overlay_14 : decode cX11_overlay 14 = .ok (.aload_n 0, 1) := by decide +kernel
theorem dX11_overlay_15 : decode cX11_overlay 15 = .ok (.iload 4, 2) := by decide +kernel
theorem dX11_overlay_17 : decode cX11_overlay 17 = .ok (.invokevirtual 140, 3) := by decide +kernel
theorem dX11_overlay_20 : decode cX11_overlay 20 = .ok (.astore 7, 2) := by decide +kernel
theorem dX11_overlay_22 : decode cX11_overlay 22 = .ok (.aload 5, 2) := by decide +kernel
theorem dX11_overlay_24 : decode cX11_overlay 24 = .ok (.invokestatic 172, 3) := by decide +kernel
theorem dX12_overlay_0 : decode cX12_overlay 0 = .ok (.aload_n 0, 1) := by decide +kernel
theorem dX12_overlay_1 : decode cX12_overlay 1 = .ok (.iconst 0, 1) := by decide +kernel
theorem dX12_overlay_2 : decode cX12_overlay 2 = .ok (.putfield 271, 3) := by decide +kernel
theorem dX12_overlay_5 : decode cX12_overlay 5 = .ok (.aload_n 0, 1) := by decide +kernel
theorem dX12_overlay_6 : decode cX12_overlay 6 = .ok (.iload_n 2, 1) := by decide +kernel
theorem dX12_overlay_7 : decode cX12_overlay 7 = .ok (.invokestatic 440, 3) := by decide +kernel
theorem dX12_overlay_10 : decode cX12_overlay 10 = .ok (.ifCond .eq 18, 3) := by decide +kernel
theorem dX12_overlay_13 : decode cX12_overlay 13 = .ok (.iload_n 3, 1) := by decide +kernel
theorem dX12_overlay_14 : decode cX12_overlay 14 = .ok (.invokestatic 440, 3) := by decide +kernel
theorem dX12_overlay_17 : decode cX12_overlay 17 = .ok (.ifCond .eq 11, 3) := by decide +kernel
theorem dX12_overlay_20 : decode cX12_overlay 20 = .ok (.iload 4, 2) := by decide +kernel
theorem dX12_overlay_22 : decode cX12_overlay 22 = .ok (.invokestatic 440, 3) := by decide +kernel
theorem dX12_overlay_25 : decode cX12_overlay 25 = .ok (.ifCond .ne 7, 3) := by decide +kernel
theorem dX12_overlay_28 : decode cX12_overlay 28 = .ok (.iconst 1, 1) := by decide +kernel
theorem dX12_overlay_29 : decode cX12_overlay 29 = .ok (.goto 4, 3) := by decide +kernel
theorem dX12_overlay_32 : decode cX12_overlay 32 = .ok (.iconst 0, 1) := by decide +kernel
theorem dX12_overlay_33 : decode cX12_overlay 33 = .ok (.iconst 1, 1) := by decide +kernel
theorem dX12_overlay_34 : decode cX12_overlay 34 = .ok (.invokevirtual 277, 3) := by decide +kernel
theorem dX12_overlay_37 : decode cX12_overlay 37 = .ok (.ifCond .ne 32, 3) := by decide +kernel
theorem dX12_overlay_40 : decode cX12_overlay 40 = .ok (.aload_n 0, 1) := by decide +kernel
theorem dX12_overlay_41 : decode cX12_overlay 41 = .ok (.aload_n 0, 1) := by decide +kernel
theorem dX12_overlay_42 : decode cX12_overlay 42 = .ok (.iload_n 2, 1) := by decide +kernel
theorem dX12_overlay_43 : decode cX12_overlay 43 = .ok (.invokevirtual 545, 3) := by decide +kernel
theorem dX12_overlay_46 : decode cX12_overlay 46 = .ok (.ifCond .eq 11, 3) := by decide +kernel
theorem dX12_overlay_57 : decode cX12_overlay 57 = .ok (.iconst 1, 1) := by decide +kernel
theorem dX12_overlay_58 : decode cX12_overlay 58 = .ok (.goto 4, 3) := by decide +kernel
theorem dX12_overlay_62 : decode cX12_overlay 62 = .ok (.iconst 2, 1) := by decide +kernel
theorem dX12_overlay_63 : decode cX12_overlay 63 = .ok (.invokevirtual 277, 3) := by decide +kernel
theorem dX12_overlay_66 : decode cX12_overlay 66 = .ok (.ifCond .eq 5, 3) := by decide +kernel
theorem dX12_overlay_69 : decode cX12_overlay 69 = .ok (.iconst 0, 1) := by decide +kernel
theorem dX12_overlay_70 : decode cX12_overlay 70 = .ok (.ireturn, 1) := by decide +kernel
theorem dL_law_1031 : decode cL_law 1031 = .ok (.aload_n 1, 1) := by decide +kernel
theorem dL_law_1032 : decode cL_law 1032 = .ok (.aload_n 0, 1) := by decide +kernel
theorem dL_law_1033 : decode cL_law 1033 = .ok (.iload 4, 2) := by decide +kernel
theorem dL_law_1035 : decode cL_law 1035 = .ok (.iconst 1, 1) := by decide +kernel
theorem dL_law_1036 : decode cL_law 1036 = .ok (.iadd, 1) := by decide +kernel
theorem dL_law_1037 : decode cL_law 1037 = .ok (.iaload, 1) := by decide +kernel
theorem dL_law_1038 : decode cL_law 1038 = .ok (.aload_n 0, 1) := by decide +kernel
theorem dL_law_1039 : decode cL_law 1039 = .ok (.iload 4, 2) := by decide +kernel
theorem dL_law_1041 : decode cL_law 1041 = .ok (.iconst 2, 1) := by decide +kernel
theorem dL_law_1042 : decode cL_law 1042 = .ok (.iadd, 1) := by decide +kernel
theorem dL_law_1043 : decode cL_law 1043 = .ok (.iaload, 1) := by decide +kernel
theorem dL_law_1044 : decode cL_law 1044 = .ok (.aload_n 0, 1) := by decide +kernel
theorem dL_law_1045 : decode cL_law 1045 = .ok (.iload 4, 2) := by decide +kernel
theorem dL_law_1047 : decode cL_law 1047 = .ok (.iconst 3, 1) := by decide +kernel
theorem dL_law_1048 : decode cL_law 1048 = .ok (.iadd, 1) := by decide +kernel
theorem dL_law_1049 : decode cL_law 1049 = .ok (.iaload, 1) := by decide +kernel
theorem dL_law_1050 : decode cL_law 1050 = .ok (.aload_n 0, 1) := by decide +kernel
theorem dL_law_1051 : decode cL_law 1051 = .ok (.iload 4, 2) := by decide +kernel
theorem dL_law_1053 : decode cL_law 1053 = .ok (.iconst 4, 1) := by decide +kernel
theorem dL_law_1054 : decode cL_law 1054 = .ok (.iadd, 1) := by decide +kernel
theorem dL_law_1055 : decode cL_law 1055 = .ok (.iaload, 1) := by decide +kernel
theorem dL_law_1056 : decode cL_law 1056 = .ok (.aload_n 3, 1) := by decide +kernel
theorem dL_law_1057 : decode cL_law 1057 = .ok (.invokestatic 182, 3) := by decide +kernel
theorem dL_law_1060 : decode cL_law 1060 = .ok (.istore 5, 2) := by decide +kernel
theorem dL_law_1062 : decode cL_law 1062 = .ok (.aload_n 2, 1) := by decide +kernel
theorem dL_law_1063 : decode cL_law 1063 = .ok (.aload_n 0, 1) := by decide +kernel
theorem dL_law_1064 : decode cL_law 1064 = .ok (.iload 4, 2) := by decide +kernel
theorem dL_law_1066 : decode cL_law 1066 = .ok (.iconst 1, 1) := by decide +kernel
theorem dL_law_1067 : decode cL_law 1067 = .ok (.iadd, 1) := by decide +kernel
theorem dL_law_1068 : decode cL_law 1068 = .ok (.iaload, 1) := by decide +kernel
theorem dL_law_1069 : decode cL_law 1069 = .ok (.aload_n 0, 1) := by decide +kernel
theorem dL_law_1070 : decode cL_law 1070 = .ok (.iload 4, 2) := by decide +kernel
theorem dL_law_1072 : decode cL_law 1072 = .ok (.iconst 2, 1) := by decide +kernel
theorem dL_law_1073 : decode cL_law 1073 = .ok (.iadd, 1) := by decide +kernel
theorem dL_law_1074 : decode cL_law 1074 = .ok (.iaload, 1) := by decide +kernel
theorem dL_law_1075 : decode cL_law 1075 = .ok (.aload_n 0, 1) := by decide +kernel
theorem dL_law_1076 : decode cL_law 1076 = .ok (.iload 4, 2) := by decide +kernel
theorem dL_law_1078 : decode cL_law 1078 = .ok (.iconst 3, 1) := by decide +kernel
theorem dL_law_1079 : decode cL_law 1079 = .ok (.iadd, 1) := by decide +kernel
theorem dL_law_1080 : decode cL_law 1080 = .ok (.iaload, 1) := by decide +kernel
theorem dL_law_1081 : decode cL_law 1081 = .ok (.aload_n 0, 1) := by decide +kernel
theorem dL_law_1082 : decode cL_law 1082 = .ok (.iload 4, 2) := by decide +kernel
theorem dL_law_1084 : decode cL_law 1084 = .ok (.iconst 4, 1) := by decide +kernel
theorem dL_law_1085 : decode cL_law 1085 = .ok (.iadd, 1) := by decide +kernel
theorem dL_law_1086 : decode cL_law 1086 = .ok (.iaload, 1) := by decide +kernel
theorem dL_law_1087 : decode cL_law 1087 = .ok (.invokevirtual 185, 3) := by decide +kernel
theorem dL_law_1090 : decode cL_law 1090 = .ok (.istore 6, 2) := by decide +kernel
theorem dL_law_1092 : decode cL_law 1092 = .ok (.aload_n 2, 1) := by decide +kernel
theorem dL_law_1093 : decode cL_law 1093 = .ok (.invokevirtual 136, 3) := by decide +kernel
theorem dL_law_1096 : decode cL_law 1096 = .ok (.iload 5, 2) := by decide +kernel
theorem dL_law_1098 : decode cL_law 1098 = .ok (.if_icmp .eq 5, 3) := by decide +kernel
theorem dL_law_1103 : decode cL_law 1103 = .ok (.iload 5, 2) := by decide +kernel
theorem dL_law_1105 : decode cL_law 1105 = .ok (.ifCond .ne 15, 3) := by decide +kernel
theorem dL_law_1120 : decode cL_law 1120 = .ok (.goto 1329, 3) := by decide +kernel
theorem dL_law_1191 : decode cL_law 1191 = .ok (.aload_n 1, 1) := by decide +kernel
theorem dL_law_1192 : decode cL_law 1192 = .ok (.aload_n 0, 1) := by decide +kernel
theorem dL_law_1193 : decode cL_law 1193 = .ok (.iload 4, 2) := by decide +kernel
theorem dL_law_1195 : decode cL_law 1195 = .ok (.iconst 1, 1) := by decide +kernel
theorem dL_law_1196 : decode cL_law 1196 = .ok (.iadd, 1) := by decide +kernel
theorem dL_law_1197 : decode cL_law 1197 = .ok (.iaload, 1) := by decide +kernel
theorem dL_law_1198 : decode cL_law 1198 = .ok (.aload_n 0, 1) := by decide +kernel
theorem dL_law_1199 : decode cL_law 1199 = .ok (.iload 4, 2) := by decide +kernel
theorem dL_law_1201 : decode cL_law 1201 = .ok (.iconst 2, 1) := by decide +kernel
theorem dL_law_1202 : decode cL_law 1202 = .ok (.iadd, 1) := by decide +kernel
theorem dL_law_1203 : decode cL_law 1203 = .ok (.iaload, 1) := by decide +kernel
theorem dL_law_1204 : decode cL_law 1204 = .ok (.aload_n 0, 1) := by decide +kernel
theorem dL_law_1205 : decode cL_law 1205 = .ok (.iload 4, 2) := by decide +kernel
theorem dL_law_1207 : decode cL_law 1207 = .ok (.iconst 3, 1) := by decide +kernel
theorem dL_law_1208 : decode cL_law 1208 = .ok (.iadd, 1) := by decide +kernel
theorem dL_law_1209 : decode cL_law 1209 = .ok (.iaload, 1) := by decide +kernel
theorem dL_law_1210 : decode cL_law 1210 = .ok (.aload_n 3, 1) := by decide +kernel
theorem dL_law_1211 : decode cL_law 1211 = .ok (.invokestatic 189, 3) := by decide +kernel
theorem dL_law_1214 : decode cL_law 1214 = .ok (.istore 5, 2) := by decide +kernel
theorem dL_law_1216 : decode cL_law 1216 = .ok (.aload_n 2, 1) := by decide +kernel
theorem dL_law_1217 : decode cL_law 1217 = .ok (.aload_n 0, 1) := by decide +kernel
theorem dL_law_1218 : decode cL_law 1218 = .ok (.iload 4, 2) := by decide +kernel
theorem dL_law_1220 : decode cL_law 1220 = .ok (.iconst 1, 1) := by decide +kernel
theorem dL_law_1221 : decode cL_law 1221 = .ok (.iadd, 1) := by decide +kernel
theorem dL_law_1222 : decode cL_law 1222 = .ok (.iaload, 1) := by decide +kernel
theorem dL_law_1223 : decode cL_law 1223 = .ok (.aload_n 0, 1) := by decide +kernel
theorem dL_law_1224 : decode cL_law 1224 = .ok (.iload 4, 2) := by decide +kernel
theorem dL_law_1226 : decode cL_law 1226 = .ok (.iconst 2, 1) := by decide +kernel
theorem dL_law_1227 : decode cL_law 1227 = .ok (.iadd, 1) := by decide +kernel
theorem dL_law_1228 : decode cL_law 1228 = .ok (.iaload, 1) := by decide +kernel
theorem dL_law_1229 : decode cL_law 1229 = .ok (.aload_n 0, 1) := by decide +kernel
theorem dL_law_1230 : decode cL_law 1230 = .ok (.iload 4, 2) := by decide +kernel
theorem dL_law_1232 : decode cL_law 1232 = .ok (.iconst 3, 1) := by decide +kernel
theorem dL_law_1233 : decode cL_law 1233 = .ok (.iadd, 1) := by decide +kernel
theorem dL_law_1234 : decode cL_law 1234 = .ok (.iaload, 1) := by decide +kernel
theorem dL_law_1235 : decode cL_law 1235 = .ok (.invokevirtual 192, 3) := by decide +kernel
theorem dL_law_1238 : decode cL_law 1238 = .ok (.istore 6, 2) := by decide +kernel
theorem dL_law_1240 : decode cL_law 1240 = .ok (.aload_n 2, 1) := by decide +kernel
theorem dL_law_1241 : decode cL_law 1241 = .ok (.invokevirtual 136, 3) := by decide +kernel
theorem dL_law_1244 : decode cL_law 1244 = .ok (.iload 5, 2) := by decide +kernel
theorem dL_law_1246 : decode cL_law 1246 = .ok (.if_icmp .eq 5, 3) := by decide +kernel
theorem dL_law_1251 : decode cL_law 1251 = .ok (.iload 5, 2) := by decide +kernel
theorem dL_law_1253 : decode cL_law 1253 = .ok (.ifCond .ne 22, 3) := by decide +kernel
theorem dL_law_1275 : decode cL_law 1275 = .ok (.goto 1174, 3) := by decide +kernel
theorem dL_law_1278 : decode cL_law 1278 = .ok (.aload_n 1, 1) := by decide +kernel
theorem dL_law_1279 : decode cL_law 1279 = .ok (.aload_n 0, 1) := by decide +kernel
theorem dL_law_1280 : decode cL_law 1280 = .ok (.iload 4, 2) := by decide +kernel
theorem dL_law_1282 : decode cL_law 1282 = .ok (.iconst 1, 1) := by decide +kernel
theorem dL_law_1283 : decode cL_law 1283 = .ok (.iadd, 1) := by decide +kernel
theorem dL_law_1284 : decode cL_law 1284 = .ok (.iaload, 1) := by decide +kernel
theorem dL_law_1285 : decode cL_law 1285 = .ok (.aload_n 0, 1) := by decide +kernel
theorem dL_law_1286 : decode cL_law 1286 = .ok (.iload 4, 2) := by decide +kernel
theorem dL_law_1288 : decode cL_law 1288 = .ok (.iconst 2, 1) := by decide +kernel
theorem dL_law_1289 : decode cL_law 1289 = .ok (.iadd, 1) := by decide +kernel
theorem dL_law_1290 : decode cL_law 1290 = .ok (.iaload, 1) := by decide +kernel
theorem dL_law_1291 : decode cL_law 1291 = .ok (.aload_n 0, 1) := by decide +kernel
theorem dL_law_1292 : decode cL_law 1292 = .ok (.iload 4, 2) := by decide +kernel
theorem dL_law_1294 : decode cL_law 1294 = .ok (.iconst 3, 1) := by decide +kernel
theorem dL_law_1295 : decode cL_law 1295 = .ok (.iadd, 1) := by decide +kernel
theorem dL_law_1296 : decode cL_law 1296 = .ok (.iaload, 1) := by decide +kernel
theorem dL_law_1297 : decode cL_law 1297 = .ok (.aload_n 3, 1) := by decide +kernel
theorem dL_law_1298 : decode cL_law 1298 = .ok (.invokestatic 193, 3) := by decide +kernel
theorem dL_law_1301 : decode cL_law 1301 = .ok (.istore 5, 2) := by decide +kernel
theorem dL_law_1303 : decode cL_law 1303 = .ok (.aload_n 2, 1) := by decide +kernel
theorem dL_law_1304 : decode cL_law 1304 = .ok (.aload_n 0, 1) := by decide +kernel
theorem dL_law_1305 : decode cL_law 1305 = .ok (.iload 4, 2) := by decide +kernel
theorem dL_law_1307 : decode cL_law 1307 = .ok (.iconst 1, 1) := by decide +kernel
theorem dL_law_1308 : decode cL_law 1308 = .ok (.iadd, 1) := by decide +kernel
theorem dL_law_1309 : decode cL_law 1309 = .ok (.iaload, 1) := by decide +kernel
theorem dL_law_1310 : decode cL_law 1310 = .ok (.aload_n 0, 1) := by decide +kernel
theorem dL_law_1311 : decode cL_law 1311 = .ok (.iload 4, 2) := by decide +kernel
theorem dL_law_1313 : decode cL_law 1313 = .ok (.iconst 2, 1) := by decide +kernel
theorem dL_law_1314 : decode cL_law 1314 = .ok (.iadd, 1) := by decide +kernel
theorem dL_law_1315 : decode cL_law 1315 = .ok (.iaload, 1) := by decide +kernel
theorem dL_law_1316 : decode cL_law 1316 = .ok (.aload_n 0, 1) := by decide +kernel
theorem dL_law_1317 : decode cL_law 1317 = .ok (.iload 4, 2) := by decide +kernel
theorem dL_law_1319 : decode cL_law 1319 = .ok (.iconst 3, 1) := by decide +kernel
theorem dL_law_1320 : decode cL_law 1320 = .ok (.iadd, 1) := by decide +kernel
theorem dL_law_1321 : decode cL_law 1321 = .ok (.iaload, 1) := by decide +kernel
theorem dL_law_1322 : decode cL_law 1322 = .ok (.invokevirtual 195, 3) := by decide +kernel
theorem dL_law_1325 : decode cL_law 1325 = .ok (.istore 6, 2) := by decide +kernel
theorem dL_law_1327 : decode cL_law 1327 = .ok (.aload_n 2, 1) := by decide +kernel
theorem dL_law_1328 : decode cL_law 1328 = .ok (.invokevirtual 136, 3) := by decide +kernel
theorem dL_law_1331 : decode cL_law 1331 = .ok (.iload 5, 2) := by decide +kernel
theorem dL_law_1333 : decode cL_law 1333 = .ok (.if_icmp .eq 5, 3) := by decide +kernel
theorem dL_law_1338 : decode cL_law 1338 = .ok (.iload 5, 2) := by decide +kernel
theorem dL_law_1340 : decode cL_law 1340 = .ok (.ifCond .ne 15, 3) := by decide +kernel
theorem dL_law_1355 : decode cL_law 1355 = .ok (.goto 1094, 3) := by decide +kernel
theorem dL_law_1358 : decode cL_law 1358 = .ok (.aload_n 1, 1) := by decide +kernel
theorem dL_law_1359 : decode cL_law 1359 = .ok (.aload_n 0, 1) := by decide +kernel
theorem dL_law_1360 : decode cL_law 1360 = .ok (.iload 4, 2) := by decide +kernel
theorem dL_law_1362 : decode cL_law 1362 = .ok (.iconst 1, 1) := by decide +kernel
theorem dL_law_1363 : decode cL_law 1363 = .ok (.iadd, 1) := by decide +kernel
theorem dL_law_1364 : decode cL_law 1364 = .ok (.iaload, 1) := by decide +kernel
theorem dL_law_1365 : decode cL_law 1365 = .ok (.aload_n 0, 1) := by decide +kernel
theorem dL_law_1366 : decode cL_law 1366 = .ok (.iload 4, 2) := by decide +kernel
theorem dL_law_1368 : decode cL_law 1368 = .ok (.iconst 2, 1) := by decide +kernel
theorem dL_law_1369 : decode cL_law 1369 = .ok (.iadd, 1) := by decide +kernel
theorem dL_law_1370 : decode cL_law 1370 = .ok (.iaload, 1) := by decide +kernel
theorem dL_law_1371 : decode cL_law 1371 = .ok (.aload_n 3, 1) := by decide +kernel
theorem dL_law_1372 : decode cL_law 1372 = .ok (.invokestatic 196, 3) := by decide +kernel
theorem dL_law_1375 : decode cL_law 1375 = .ok (.istore 5, 2) := by decide +kernel
theorem dL_law_1377 : decode cL_law 1377 = .ok (.aload_n 2, 1) := by decide +kernel
theorem dL_law_1378 : decode cL_law 1378 = .ok (.aload_n 0, 1) := by decide +kernel
theorem dL_law_1379 : decode cL_law 1379 = .ok (.iload 4, 2) := by decide +kernel
theorem dL_law_1381 : decode cL_law 1381 = .ok (.iconst 1, 1) := by decide +kernel
theorem dL_law_1382 : decode cL_law 1382 = .ok (.iadd, 1) := by decide +kernel
theorem dL_law_1383 : decode cL_law 1383 = .ok (.iaload, 1) := by decide +kernel
theorem dL_law_1384 : decode cL_law 1384 = .ok (.aload_n 0, 1) := by decide +kernel
theorem dL_law_1385 : decode cL_law 1385 = .ok (.iload 4, 2) := by decide +kernel
theorem dL_law_1387 : decode cL_law 1387 = .ok (.iconst 2, 1) := by decide +kernel
theorem dL_law_1388 : decode cL_law 1388 = .ok (.iadd, 1) := by decide +kernel
theorem dL_law_1389 : decode cL_law 1389 = .ok (.iaload, 1) := by decide +kernel
theorem dL_law_1390 : decode cL_law 1390 = .ok (.invokevirtual 198, 3) := by decide +kernel
theorem dL_law_1393 : decode cL_law 1393 = .ok (.istore 6, 2) := by decide +kernel
theorem dL_law_1395 : decode cL_law 1395 = .ok (.aload_n 2, 1) := by decide +kernel
theorem dL_law_1396 : decode cL_law 1396 = .ok (.invokevirtual 136, 3) := by decide +kernel
theorem dL_law_1399 : decode cL_law 1399 = .ok (.iload 5, 2) := by decide +kernel
theorem dL_law_1401 : decode cL_law 1401 = .ok (.if_icmp .eq 5, 3) := by decide +kernel
theorem dL_law_1406 : decode cL_law 1406 = .ok (.iload 5, 2) := by decide +kernel
theorem dL_law_1408 : decode cL_law 1408 = .ok (.ifCond .ne 15, 3) := by decide +kernel
theorem dL_law_1423 : decode cL_law 1423 = .ok (.goto 1026, 3) := by decide +kernel
theorem dL_law_1426 : decode cL_law 1426 = .ok (.aload_n 1, 1) := by decide +kernel
theorem dL_law_1427 : decode cL_law 1427 = .ok (.aload_n 0, 1) := by decide +kernel
theorem dL_law_1428 : decode cL_law 1428 = .ok (.iload 4, 2) := by decide +kernel
theorem dL_law_1430 : decode cL_law 1430 = .ok (.iconst 1, 1) := by decide +kernel
theorem dL_law_1431 : decode cL_law 1431 = .ok (.iadd, 1) := by decide +kernel
theorem dL_law_1432 : decode cL_law 1432 = .ok (.iaload, 1) := by decide +kernel
theorem dL_law_1433 : decode cL_law 1433 = .ok (.aload_n 0, 1) := by decide +kernel
theorem dL_law_1434 : decode cL_law 1434 = .ok (.iload 4, 2) := by decide +kernel
theorem dL_law_1436 : decode cL_law 1436 = .ok (.iconst 2, 1) := by decide +kernel
theorem dL_law_1437 : decode cL_law 1437 = .ok (.iadd, 1) := by decide +kernel
theorem dL_law_1438 : decode cL_law 1438 = .ok (.iaload, 1) := by decide +kernel
theorem dL_law_1439 : decode cL_law 1439 = .ok (.aload_n 3, 1) := by decide +kernel
theorem dL_law_1440 : decode cL_law 1440 = .ok (.invokestatic 199, 3) := by decide +kernel
theorem dL_law_1443 : decode cL_law 1443 = .ok (.istore 5, 2) := by decide +kernel
theorem dL_law_1445 : decode cL_law 1445 = .ok (.aload_n 2, 1) := by decide +kernel
theorem dL_law_1446 : decode cL_law 1446 = .ok (.aload_n 0, 1) := by decide +kernel
theorem dL_law_1447 : decode cL_law 1447 = .ok (.iload 4, 2) := by decide +kernel
theorem dL_law_1449 : decode cL_law 1449 = .ok (.iconst 1, 1) := by decide +kernel
theorem dL_law_1450 : decode cL_law 1450 = .ok (.iadd, 1) := by decide +kernel
theorem dL_law_1451 : decode cL_law 1451 = .ok (.iaload, 1) := by decide +kernel
theorem dL_law_1452 : decode cL_law 1452 = .ok (.aload_n 0, 1) := by decide +kernel
theorem dL_law_1453 : decode cL_law 1453 = .ok (.iload 4, 2) := by decide +kernel
theorem dL_law_1455 : decode cL_law 1455 = .ok (.iconst 2, 1) := by decide +kernel
theorem dL_law_1456 : decode cL_law 1456 = .ok (.iadd, 1) := by decide +kernel
theorem dL_law_1457 : decode cL_law 1457 = .ok (.iaload, 1) := by decide +kernel
theorem dL_law_1458 : decode cL_law 1458 = .ok (.invokevirtual 201, 3) := by decide +kernel
theorem dL_law_1461 : decode cL_law 1461 = .ok (.istore 6, 2) := by decide +kernel
theorem dL_law_1463 : decode cL_law 1463 = .ok (.aload_n 2, 1) := by decide +kernel
theorem dL_law_1464 : decode cL_law 1464 = .ok (.invokevirtual 136, 3) := by decide +kernel
theorem dL_law_1467 : decode cL_law 1467 = .ok (.iload 5, 2) := by decide +kernel
theorem dL_law_1469 : decode cL_law 1469 = .ok (.if_icmp .eq 5, 3) := by decide +kernel
theorem dL_law_1474 : decode cL_law 1474 = .ok (.iload 5, 2) := by decide +kernel
theorem dL_law_1476 : decode cL_law 1476 = .ok (.ifCond .ne 15, 3) := by decide +kernel
theorem dL_law_1491 : decode cL_law 1491 = .ok (.goto 958, 3) := by decide +kernel
theorem dL_law_1494 : decode cL_law 1494 = .ok (.aload_n 1, 1) := by decide +kernel
theorem dL_law_1495 : decode cL_law 1495 = .ok (.aload_n 0, 1) := by decide +kernel
theorem dL_law_1496 : decode cL_law 1496 = .ok (.iload 4, 2) := by decide +kernel
theorem dL_law_1498 : decode cL_law 1498 = .ok (.iconst 1, 1) := by decide +kernel
theorem dL_law_1499 : decode cL_law 1499 = .ok (.iadd, 1) := by decide +kernel
theorem dL_law_1500 : decode cL_law 1500 = .ok (.iaload, 1) := by decide +kernel
theorem dL_law_1501 : decode cL_law 1501 = .ok (.aload_n 0, 1) := by decide +kernel
theorem dL_law_1502 : decode cL_law 1502 = .ok (.iload 4, 2) := by decide +kernel
theorem dL_law_1504 : decode cL_law 1504 = .ok (.iconst 2, 1) := by decide +kernel
theorem dL_law_1505 : decode cL_law 1505 = .ok (.iadd, 1) := by decide +kernel
theorem dL_law_1506 : decode cL_law 1506 = .ok (.iaload, 1) := by decide +kernel
theorem dL_law_1507 : decode cL_law 1507 = .ok (.aload_n 0, 1) := by decide +kernel
theorem dL_law_1508 : decode cL_law 1508 = .ok (.iload 4, 2) := by decide +kernel
theorem dL_law_1510 : decode cL_law 1510 = .ok (.iconst 3, 1) := by decide +kernel
theorem dL_law_1511 : decode cL_law 1511 = .ok (.iadd, 1) := by decide +kernel
theorem dL_law_1512 : decode cL_law 1512 = .ok (.iaload, 1) := by decide +kernel
theorem dL_law_1513 : decode cL_law 1513 = .ok (.aload_n 3, 1) := by decide +kernel
theorem dL_law_1514 : decode cL_law 1514 = .ok (.invokestatic 202, 3) := by decide +kernel
theorem dL_law_1517 : decode cL_law 1517 = .ok (.istore 5, 2) := by decide +kernel
theorem dL_law_1519 : decode cL_law 1519 = .ok (.aload_n 2, 1) := by decide +kernel
theorem dL_law_1520 : decode cL_law 1520 = .ok (.aload_n 0, 1) := by decide +kernel
theorem dL_law_1521 : decode cL_law 1521 = .ok (.iload 4, 2) := by decide +kernel
theorem dL_law_1523 : decode cL_law 1523 = .ok (.iconst 1, 1) := by decide +kernel
theorem dL_law_1524 : decode cL_law 1524 = .ok (.iadd, 1) := by decide +kernel
theorem dL_law_1525 : decode cL_law 1525 = .ok (.iaload, 1) := by decide +kernel
theorem dL_law_1526 : decode cL_law 1526 = .ok (.aload_n 0, 1) := by decide +kernel
theorem dL_law_1527 : decode cL_law 1527 = .ok (.iload 4, 2) := by decide +kernel
theorem dL_law_1529 : decode cL_law 1529 = .ok (.iconst 2, 1) := by decide +kernel
theorem dL_law_1530 : decode cL_law 1530 = .ok (.iadd, 1) := by decide +kernel
theorem dL_law_1531 : decode cL_law 1531 = .ok (.iaload, 1) := by decide +kernel
theorem dL_law_1532 : decode cL_law 1532 = .ok (.aload_n 0, 1) := by decide +kernel
theorem dL_law_1533 : decode cL_law 1533 = .ok (.iload 4, 2) := by decide +kernel
theorem dL_law_1535 : decode cL_law 1535 = .ok (.iconst 3, 1) := by decide +kernel
theorem dL_law_1536 : decode cL_law 1536 = .ok (.iadd, 1) := by decide +kernel
theorem dL_law_1537 : decode cL_law 1537 = .ok (.iaload, 1) := by decide +kernel
theorem dL_law_1538 : decode cL_law 1538 = .ok (.invokevirtual 204, 3) := by decide +kernel
theorem dL_law_1541 : decode cL_law 1541 = .ok (.istore 6, 2) := by decide +kernel
theorem dL_law_1543 : decode cL_law 1543 = .ok (.aload_n 2, 1) := by decide +kernel
theorem dL_law_1544 : decode cL_law 1544 = .ok (.invokevirtual 136, 3) := by decide +kernel
theorem dL_law_1547 : decode cL_law 1547 = .ok (.iload 5, 2) := by decide +kernel
theorem dL_law_1549 : decode cL_law 1549 = .ok (.if_icmp .eq 5, 3) := by decide +kernel
theorem dL_law_1554 : decode cL_law 1554 = .ok (.iload 5, 2) := by decide +kernel
theorem dL_law_1556 : decode cL_law 1556 = .ok (.ifCond .ne 15, 3) := by decide +kernel
theorem dL_law_1571 : decode cL_law 1571 = .ok (.goto 878, 3) := by decide +kernel
abbrev M_L_is : MRec := (yL_is, cL_is, 6, (some Jvm.ClassFile.FieldType.int), [((0 : Nat), (19 : Nat), (22 : Nat), (24 : Nat)), ((0 : Nat), (19 : Nat), (26 : Nat), (13 : Nat)), ((0 : Nat), (19 : Nat), (30 : Nat), (19 : Nat)), ((0 : Nat), (19 : Nat), (34 : Nat), (63 : Nat))])
theorem m_L_is : en_M M_L_is 5 := ⟨t_2037, t_0, ⟨by decide +kernel, by decide +kernel⟩, by decide +kernel, by decide +kernel, by decide +kernel⟩
abbrev M_X11_is : MRec := (yX11_is, cX11_is, 4, (some Jvm.ClassFile.FieldType.boolean), [])
theorem m_X11_is : en_M M_X11_is 3 := ⟨t_2041, t_1, ⟨by decide +kernel, by decide +kernel⟩, by decide +kernel, by decide +kernel, by decide +kernel⟩
abbrev M_X12_is : MRec := (yX12_is, cX12_is, 4, (some Jvm.ClassFile.FieldType.boolean), [])
theorem m_X12_is : en_M M_X12_is 3 := ⟨t_3599, t_14, ⟨by decide +kernel, by decide +kernel⟩, by decide +kernel, by decide +kernel, by decide +kernel⟩
abbrev M_L_locate : MRec := (yL_locate, cL_locate, 6, (some Jvm.ClassFile.FieldType.int), [((0 : Nat), (12 : Nat), (15 : Nat), (24 : Nat)), ((0 : Nat), (12 : Nat), (19 : Nat), (13 : Nat)), ((0 : Nat), (12 : Nat), (23 : Nat), (19 : Nat)), ((0 : Nat), (12 : Nat), (27 : Nat), (63 : Nat))])
theorem m_L_locate : en_M M_L_locate 5 := ⟨t_2068, t_0, ⟨by decide +kernel, by decide +kernel⟩, by decide +kernel, by decide +kernel, by decide +kernel⟩
abbrev M_X11_locate : MRec := (yX11_locate, cX11_locate, 5, (some Jvm.ClassFile.FieldType.int), [])
theorem m_X11_locate : en_M M_X11_locate 3 := ⟨t_2072, t_1, ⟨by decide +kernel, by decide +kernel⟩, by decide +kernel, by decide +kernel, by decide +kernel⟩
abbrev M_X12_locate : MRec := (yX12_locate, cX12_locate, 4, (some Jvm.ClassFile.FieldType.int), [])
theorem m_X12_locate : en_M M_X12_locate 3 := ⟨t_3616, t_14, ⟨by decide +kernel, by decide +kernel⟩, by decide +kernel, by decide +kernel, by decide +kernel⟩
abbrev M_L_hull : MRec := (yL_hull, cL_hull, 5, (some Jvm.ClassFile.FieldType.int), [((0 : Nat), (10 : Nat), (13 : Nat), (24 : Nat)), ((0 : Nat), (10 : Nat), (17 : Nat), (13 : Nat)), ((0 : Nat), (10 : Nat), (21 : Nat), (63 : Nat))])
theorem m_L_hull : en_M M_L_hull 4 := ⟨t_2078, t_0, ⟨by decide +kernel, by decide +kernel⟩, by decide +kernel, by decide +kernel, by decide +kernel⟩
abbrev M_X11_hull : MRec := (yX11_hull, cX11_hull, 5, (some Jvm.ClassFile.FieldType.int), [])
theorem m_X11_hull : en_M M_X11_hull 2 := ⟨t_2082, t_1, ⟨by decide +kernel, by decide +kernel⟩, by decide +kernel, by decide +kernel, by decide +kernel⟩
abbrev M_X12_hull : MRec := (yX12_hull, cX12_hull, 4, (some Jvm.ClassFile.FieldType.int), [])
theorem m_X12_hull : en_M M_X12_hull 2 := ⟨t_3620, t_14, ⟨by decide +kernel, by decide +kernel⟩, by decide +kernel, by decide +kernel, by decide +kernel⟩
abbrev M_L_triangles : MRec := (yL_triangles, cL_triangles, 5, (some Jvm.ClassFile.FieldType.int), [((0 : Nat), (10 : Nat), (13 : Nat), (24 : Nat)), ((0 : Nat), (10 : Nat), (17 : Nat), (13 : Nat)), ((0 : Nat), (10 : Nat), (21 : Nat), (63 : Nat))])
theorem m_L_triangles : en_M M_L_triangles 4 := ⟨t_2124, t_0, ⟨by decide +kernel, by decide +kernel⟩, by decide +kernel, by decide +kernel, by decide +kernel⟩
abbrev M_X11_triangles : MRec := (yX11_triangles, cX11_triangles, 5, (some Jvm.ClassFile.FieldType.int), [])
theorem m_X11_triangles : en_M M_X11_triangles 2 := ⟨t_2128, t_1, ⟨by decide +kernel, by decide +kernel⟩, by decide +kernel, by decide +kernel, by decide +kernel⟩
abbrev M_X12_triangles : MRec := (yX12_triangles, cX12_triangles, 4, (some Jvm.ClassFile.FieldType.int), [])
theorem m_X12_triangles : en_M M_X12_triangles 2 := ⟨t_3652, t_14, ⟨by decide +kernel, by decide +kernel⟩, by decide +kernel, by decide +kernel, by decide +kernel⟩
abbrev M_L_simplify : MRec := (yL_simplify, cL_simplify, 6, (some Jvm.ClassFile.FieldType.int), [((0 : Nat), (12 : Nat), (15 : Nat), (24 : Nat)), ((0 : Nat), (12 : Nat), (19 : Nat), (13 : Nat)), ((0 : Nat), (12 : Nat), (23 : Nat), (19 : Nat))])
theorem m_L_simplify : en_M M_L_simplify 5 := ⟨t_2186, t_0, ⟨by decide +kernel, by decide +kernel⟩, by decide +kernel, by decide +kernel, by decide +kernel⟩
abbrev M_X11_simplify : MRec := (yX11_simplify, cX11_simplify, 7, (some Jvm.ClassFile.FieldType.int), [])
theorem m_X11_simplify : en_M M_X11_simplify 3 := ⟨t_2190, t_1, ⟨by decide +kernel, by decide +kernel⟩, by decide +kernel, by decide +kernel, by decide +kernel⟩
abbrev M_X12_simplify : MRec := (yX12_simplify, cX12_simplify, 11, (some Jvm.ClassFile.FieldType.int), [])
theorem m_X12_simplify : en_M M_X12_simplify 3 := ⟨t_3688, t_14, ⟨by decide +kernel, by decide +kernel⟩, by decide +kernel, by decide +kernel, by decide +kernel⟩
abbrev M_L_overlay : MRec := (yL_overlay, cL_overlay, 7, (some Jvm.ClassFile.FieldType.int), [((0 : Nat), (14 : Nat), (17 : Nat), (24 : Nat)), ((0 : Nat), (14 : Nat), (21 : Nat), (13 : Nat)), ((0 : Nat), (14 : Nat), (25 : Nat), (19 : Nat)), ((0 : Nat), (14 : Nat), (29 : Nat), (63 : Nat))])
theorem m_L_overlay : en_M M_L_overlay 6 := ⟨t_1371, t_0, ⟨by decide +kernel, by decide +kernel⟩, by decide +kernel, by decide +kernel, by decide +kernel⟩
abbrev M_X11_overlay : MRec := (yX11_overlay, cX11_overlay, 8, (some Jvm.ClassFile.FieldType.int), [])
theorem m_X11_overlay : en_M M_X11_overlay 4 := ⟨t_1376, t_1, ⟨by decide +kernel, by decide +kernel⟩, by decide +kernel, by decide +kernel, by decide +kernel⟩
abbrev M_X12_overlay : MRec := (yX12_overlay, cX12_overlay, 6, (some Jvm.ClassFile.FieldType.int), [])
theorem m_X12_overlay : en_M M_X12_overlay 4 := ⟨t_3353, t_14, ⟨by decide +kernel, by decide +kernel⟩, by decide +kernel, by decide +kernel, by decide +kernel⟩
set_option maxRecDepth 10000 in
theorem q1992 {l : Launch} {E : EE} (hl : l.stackTraces = false) {h : HP} {a0 : Int32} {a1 : Int32} {a2 : Int32} (c0 : a1.toInt < 0) (o1988 : ob h 32 = some (.inr (14, [.ref 33, .ref 162, .ref 166, .int (0 : Int32), .int (0 : Int32), .int (0 : Int32), .ref 167, .ref 170, .ref 173, .ref 177, .ref 193, .ref 208, .ref 222, .ref 238, .ref 252, .ref 274, .ref 275, .ref 276, .int (0 : Int32)]))) : en_C l E M_X11_mustBeRelatable 7 1 6 [.ref 32, .int a0, .int a1, .int a2] h (pT "java/lang/IndexOutOfBoundsException" [] h (fun _ => True)) := by
  refine en_mk m_X11_mustBeRelatable rfl hl (Nat.le_of_ble_eq_true rfl) ?_
  refine x_aload_n (M := M_X11_mustBeRelatable) dX11_mustBeRelatable_0 rfl ?_
  refine x_iload_n (M := M_X11_mustBeRelatable) dX11_mustBeRelatable_1 rfl ?_
  exact y_callVX (M := M_X11_mustBeRelatable) (M' := M_X11_slotNumbered) rfl rfl dX11_mustBeRelatable_2 m_X11_slotNumbered t_744 t_746 s_2 (q1465 hl c0) rfl rfl o1988 rfl (Nat.le_of_ble_eq_true rfl) (Nat.le_of_ble_eq_true rfl) (Nat.le_of_ble_eq_true rfl) (Nat.le_of_ble_eq_true rfl) (fun h1989 f1990 w1991 => ⟨rfl, (fr_tr f1990 (fun _ h => nomatch h) fr_rf), trivial⟩)
set_option maxRecDepth 10000 in
theorem q1997 {l : Launch} {E : EE} (hl : l.stackTraces = false) {h : HP} {a0 : Int32} {a1 : Int32} {a2 : Int32} (c0 : a1.toInt < 0) (o1993 : ob h 32 = some (.inr (14, [.ref 33, .ref 162, .ref 166, .int (0 : Int32), .int (0 : Int32), .int (0 : Int32), .ref 167, .ref 170, .ref 173, .ref 177, .ref 193, .ref 208, .ref 222, .ref 238, .ref 252, .ref 274, .ref 275, .ref 276, .int (0 : Int32)]))) : en_C l E M_X11_is 8 1 6 [.ref 32, .int a0, .int a1, .int a2] h (pT "java/lang/IndexOutOfBoundsException" [] h (fun _ => True)) := by
  refine en_mk m_X11_is rfl hl (Nat.le_of_ble_eq_true rfl) ?_
  refine x_aload_n (M := M_X11_is) dX11_is_0 rfl ?_
  refine x_iload_n (M := M_X11_is) dX11_is_1 rfl ?_
  refine x_iload_n (M := M_X11_is) dX11_is_2 rfl ?_
  refine x_iload_n (M := M_X11_is) dX11_is_3 rfl ?_
  exact y_callVX (M := M_X11_is) (M' := M_X11_mustBeRelatable) rfl rfl dX11_is_4 m_X11_mustBeRelatable t_1879 t_1881 s_104 (q1992 hl c0 o1993) rfl rfl o1993 rfl (Nat.le_of_ble_eq_true rfl) (Nat.le_of_ble_eq_true rfl) (Nat.le_of_ble_eq_true rfl) (Nat.le_of_ble_eq_true rfl) (fun h1994 f1995 w1996 => ⟨rfl, (fr_tr f1995 (fun _ h => nomatch h) fr_rf), trivial⟩)
set_option maxRecDepth 10000 in
theorem q2002 {l : Launch} {E : EE} (hl : l.stackTraces = false) {h : HP} {a0 : Int32} {a1 : Int32} {a2 : Int32} (c0 : a1.toInt < 0) (o1998 : ob h 32 = some (.inr (14, [.ref 33, .ref 162, .ref 166, .int (0 : Int32), .int (0 : Int32), .int (0 : Int32), .ref 167, .ref 170, .ref 173, .ref 177, .ref 193, .ref 208, .ref 222, .ref 238, .ref 252, .ref 274, .ref 275, .ref 276, .int (0 : Int32)]))) : en_C l E M_L_is 9 1 6 [.ref 32, .int a0, .int a1, .int a2, .ref 359] h (pF (some (.int (Int32.ofInt 1))) [] h (fun _ => True)) := by
  refine en_mkW m_L_is rfl hl (Nat.le_of_ble_eq_true rfl) ?_
  refine x_aload (M := M_L_is) dL_is_0 rfl ?_
  refine x_iconst (M := M_L_is) dL_is_2 ?_
  refine x_aload_n (M := M_L_is) dL_is_3 rfl ?_
  refine x_iload_n (M := M_L_is) dL_is_4 rfl ?_
  refine x_iload_n (M := M_L_is) dL_is_5 rfl ?_
  refine x_iload_n (M := M_L_is) dL_is_6 rfl ?_
  refine y_callVHX (M := M_L_is) (M' := M_X11_is) (i9 := 5) (nx := 24) rfl dL_is_7 m_X11_is t_2038 t_2039 t_2040 o1998 rfl (q1997 hl c0 o1998) rfl rfl (Nat.le_of_ble_eq_true rfl) (Nat.le_of_ble_eq_true rfl) (Nat.le_of_ble_eq_true rfl) (Nat.le_of_ble_eq_true rfl) (en_hdm (k0 := 5) [] [(0, 19, 26, 13), (0, 19, 30, 19), (0, 19, 34, 63)] rfl (fun _ h => nomatch h) (by decide +kernel) (by decide) t_739 n_750 dL_is_22) (by decide) rfl (fun h1999 f2000 w2001 => ?_)
  refine x_iconst (M := M_L_is) dL_is_24 ?_
  exact x_iret (M := M_L_is) dL_is_25 rfl ⟨rfl, (fr_tr f2000 (fun _ h => nomatch h) fr_rf), trivial⟩ (Nat.le_of_ble_eq_true rfl) (Nat.le_of_ble_eq_true rfl)
set_option maxRecDepth 10000 in
theorem q2015 {l : Launch} {E : EE} (hl : l.stackTraces = false) {h : HP} {a0 : Int32} {a1 : Int32} {a2 : Int32} {dg : Int32} (c0 : a1.toInt < 0) (o2007 : ob h 277 = some (.inr (15, (RB dg)))) : en_C l E M_X12_is 1 0 0 [.ref 277, .int a0, .int a1, .int a2] h (pF (some (.int (Int32.ofInt 0))) [277] h (fun h' => ob h' 277 = some (.inr (15, ((RB dg).set 0 (.int (Int32.ofInt 1))))) ∧ True)) := by
  refine en_mk m_X12_is rfl hl (Nat.le_of_ble_eq_true rfl) ?_
  refine x_aload_n (M := M_X12_is) dX12_is_0 rfl ?_
  refine x_iconst (M := M_X12_is) dX12_is_1 ?_
  refine y_put (M := M_X12_is) (ci := 15) (C := RX12) (T := TX12) (N := 135) (ty := tyX12) cl15 dX12_is_2 o2007 0 (by decide) t_2391 (Or.inl rfl) (Nat.le_of_ble_eq_true rfl) rfl (fun h2008 w2009 f2010 => ?_)
  refine x_aload_n (M := M_X12_is) dX12_is_5 rfl ?_
  refine x_iload_n (M := M_X12_is) dX12_is_6 rfl ?_
  refine x_callSR (M := M_X12_is) (M' := M_X12_isSlot) rfl rfl dX12_is_7 m_X12_isSlot t_2841 t_2842 (q1485 hl c0) rfl rfl (Nat.le_of_ble_eq_true rfl) (Nat.le_of_ble_eq_true rfl) (Nat.le_of_ble_eq_true rfl) (Nat.le_of_ble_eq_true rfl) ?_
  refine x_if_eq (M := M_X12_is) (tgt := 20) dX12_is_10 (by decide) (fun _ => ?_) (fun q => absurd q (by decide +kernel))
  refine x_iconst (M := M_X12_is) dX12_is_20 ?_
  refine x_goto (M := M_X12_is) (tgt := 25) dX12_is_21 (by decide) ?_
  refine x_iconst (M := M_X12_is) dX12_is_25 ?_
  refine y_callVR (M := M_X12_is) (M' := M_X12_fails) rfl rfl dX12_is_26 m_X12_fails t_2805 t_2807 s_157 (q22 hl w2009) rfl rfl w2009 rfl (Nat.le_of_ble_eq_true rfl) (Nat.le_of_ble_eq_true rfl) (Nat.le_of_ble_eq_true rfl) (Nat.le_of_ble_eq_true rfl) (fun h2011 f2012 w2013 => ?_)
  obtain ⟨o2014, -⟩ := w2013
  refine x_if_ne (M := M_X12_is) (tgt := 61) dX12_is_29 (by decide) (fun _ => ?_) (fun q => absurd q (by decide +kernel))
  refine x_iconst (M := M_X12_is) dX12_is_61 ?_
  exact x_zret (M := M_X12_is) dX12_is_62 rfl (by decide) ⟨rfl, (fr_tr f2012 (by decide) (fr_tr f2010 (by decide) fr_rf)), ⟨o2014, trivial⟩⟩ (Nat.le_of_ble_eq_true rfl) (Nat.le_of_ble_eq_true rfl)
set_option maxRecDepth 10000 in
theorem lc16_0 {l : Launch} {E : EE} (hl : l.stackTraces = false) (nm : String) {xs : Nat → Int32} (hx : E.2.2.2.2 0 = some (7, xs)) {h : HP} {a0 : Int32} {a1 : Int32} {a2 : Int32} {dg : Int32} (e2 : xs 2 = a0) (e3 : xs 3 = a1) (e4 : xs 4 = a2) (c0 : a1.toInt < 0) (o2003 : ob h 32 = some (.inr (14, [.ref 33, .ref 162, .ref 166, .int (0 : Int32), .int (0 : Int32), .int (0 : Int32), .ref 167, .ref 170, .ref 173, .ref 177, .ref 193, .ref 208, .ref 222, .ref 238, .ref 252, .ref 274, .ref 275, .ref 276, .int (0 : Int32)]))) (o2016 : ob h 277 = some (.inr (15, (RB dg)))) : XX l E (M_law nm) 1312 342628 8074320 (fun o _ => o = .inl (some (.int 1))) 1191 [some (.ref 0), some (.ref 32), some (.ref 277), some (.ref 359), some (.int (Int32.ofInt 1)), none, none, none] [] h 328 2463747 := by
  refine x_aload_n (M := (M_law nm)) dL_law_1191 rfl ?_
  refine x_aload_n (M := (M_law nm)) dL_law_1192 rfl ?_
  refine x_iload (M := (M_law nm)) dL_law_1193 rfl ?_
  refine x_iconst (M := (M_law nm)) dL_law_1195 ?_
  refine x_iadd (M := (M_law nm)) dL_law_1196 ?_
  refine x_sald (M := (M_law nm)) dL_law_1197 (by decide) hx (vp_inD (by decide +kernel)) ?_
  refine x_top (M := (M_law nm)) (y := a0) ((congrArg xs (by decide +kernel : ((Int32.ofInt 1) + (Int32.ofInt 1)).toNatClampNeg = 2)).trans e2) ?_
  refine x_aload_n (M := (M_law nm)) dL_law_1198 rfl ?_
  refine x_iload (M := (M_law nm)) dL_law_1199 rfl ?_
  refine x_iconst (M := (M_law nm)) dL_law_1201 ?_
  refine x_iadd (M := (M_law nm)) dL_law_1202 ?_
  refine x_sald (M := (M_law nm)) dL_law_1203 (by decide) hx (vp_inD (by decide +kernel)) ?_
  refine x_top (M := (M_law nm)) (y := a1) ((congrArg xs (by decide +kernel : ((Int32.ofInt 1) + (Int32.ofInt 2)).toNatClampNeg = 3)).trans e3) ?_
  refine x_aload_n (M := (M_law nm)) dL_law_1204 rfl ?_
  refine x_iload (M := (M_law nm)) dL_law_1205 rfl ?_
  refine x_iconst (M := (M_law nm)) dL_law_1207 ?_
  refine x_iadd (M := (M_law nm)) dL_law_1208 ?_
  refine x_sald (M := (M_law nm)) dL_law_1209 (by decide) hx (vp_inD (by decide +kernel)) ?_
  refine x_top (M := (M_law nm)) (y := a2) ((congrArg xs (by decide +kernel : ((Int32.ofInt 1) + (Int32.ofInt 3)).toNatClampNeg = 4)).trans e4) ?_
  refine x_aload_n (M := (M_law nm)) dL_law_1210 rfl ?_
  refine y_callSW (M := (M_law nm)) (M' := M_L_is) rfl rfl dL_law_1211 m_L_is t_2035 t_2036 (q2002 hl c0 o2003) rfl rfl (Nat.le_of_ble_eq_true rfl) (Nat.le_of_ble_eq_true rfl) (Nat.le_of_ble_eq_true rfl) (Nat.le_of_ble_eq_true rfl) (fun h2004 f2005 w2006 => ?_)
  refine x_istore (M := (M_law nm)) dL_law_1214 (Nat.le_of_ble_eq_true rfl) rfl ?_
  refine x_aload_n (M := (M_law nm)) dL_law_1216 rfl ?_
  refine x_aload_n (M := (M_law nm)) dL_law_1217 rfl ?_
  refine x_iload (M := (M_law nm)) dL_law_1218 rfl ?_
  refine x_iconst (M := (M_law nm)) dL_law_1220 ?_
  refine x_iadd (M := (M_law nm)) dL_law_1221 ?_
  refine x_sald (M := (M_law nm)) dL_law_1222 (by decide) hx (vp_inD (by decide +kernel)) ?_
  refine x_top (M := (M_law nm)) (y := a0) ((congrArg xs (by decide +kernel : ((Int32.ofInt 1) + (Int32.ofInt 1)).toNatClampNeg = 2)).trans e2) ?_
  refine x_aload_n (M := (M_law nm)) dL_law_1223 rfl ?_
  refine x_iload (M := (M_law nm)) dL_law_1224 rfl ?_
  refine x_iconst (M := (M_law nm)) dL_law_1226 ?_
  refine x_iadd (M := (M_law nm)) dL_law_1227 ?_
  refine x_sald (M := (M_law nm)) dL_law_1228 (by decide) hx (vp_inD (by decide +kernel)) ?_
  refine x_top (M := (M_law nm)) (y := a1) ((congrArg xs (by decide +kernel : ((Int32.ofInt 1) + (Int32.ofInt 2)).toNatClampNeg = 3)).trans e3) ?_
  refine x_aload_n (M := (M_law nm)) dL_law_1229 rfl ?_
  refine x_iload (M := (M_law nm)) dL_law_1230 rfl ?_
  refine x_iconst (M := (M_law nm)) dL_law_1232 ?_
  refine x_iadd (M := (M_law nm)) dL_law_1233 ?_
  refine x_sald (M := (M_law nm)) dL_law_1234 (by decide) hx (vp_inD (by decide +kernel)) ?_
  refine x_top (M := (M_law nm)) (y := a2) ((congrArg xs (by decide +kernel : ((Int32.ofInt 1) + (Int32.ofInt 3)).toNatClampNeg = 4)).trans e4) ?_
  have o2017 := (f2005 277 _ (by decide) o2016)
  refine y_callVR (M := (M_law nm)) (M' := M_X12_is) rfl rfl dL_law_1235 m_X12_is t_3596 t_3597 t_3598 (q2015 hl c0 o2017) rfl rfl o2017 rfl (Nat.le_of_ble_eq_true rfl) (Nat.le_of_ble_eq_true rfl) (Nat.le_of_ble_eq_true rfl) (Nat.le_of_ble_eq_true rfl) (fun h2018 f2019 w2020 => ?_)
  obtain ⟨o2021, -⟩ := w2020
  refine x_istore (M := (M_law nm)) dL_law_1238 (Nat.le_of_ble_eq_true rfl) rfl ?_
  refine x_aload_n (M := (M_law nm)) dL_law_1240 rfl ?_
  refine x_callVR (M := (M_law nm)) (M' := M_X12_thrown) rfl rfl dL_law_1241 m_X12_thrown t_2797 t_2798 t_2799 (q35 hl o2021) rfl rfl o2021 rfl (Nat.le_of_ble_eq_true rfl) (Nat.le_of_ble_eq_true rfl) (Nat.le_of_ble_eq_true rfl) (Nat.le_of_ble_eq_true rfl) ?_
  refine x_iload (M := (M_law nm)) dL_law_1244 rfl ?_
  refine x_icmp_eq (M := (M_law nm)) (tgt := 1251) dL_law_1246 (by decide) (fun _ => ?_) (fun q => absurd q (by decide +kernel))
  refine x_iload (M := (M_law nm)) dL_law_1251 rfl ?_
  refine x_if_ne (M := (M_law nm)) (tgt := 1275) dL_law_1253 (by decide) (fun _ => ?_) (fun q => absurd q (by decide +kernel))
  refine x_goto (M := (M_law nm)) (tgt := 2449) dL_law_1275 (by decide) ?_
  refine x_iinc (M := (M_law nm)) dL_law_2449 rfl (Nat.le_of_ble_eq_true rfl) rfl ?_
  refine x_lvs (M := (M_law nm)) (lv' := [some (.ref 0), some (.ref 32), some (.ref 277), some (.ref 359), some (.int (Int32.ofInt 7)), some (.int (Int32.ofInt 1)), some (.int (Int32.ofInt 0)), none]) (by rw [(by decide +kernel : (Int32.ofInt 1) + Int32.ofInt 6 = (Int32.ofInt 7))] <;> rfl) ?_
  refine x_goto (M := (M_law nm)) (tgt := 33) dL_law_2452 (by decide) ?_
  refine x_iload (M := (M_law nm)) dL_law_33 rfl ?_
  refine x_aload_n (M := (M_law nm)) dL_law_35 rfl ?_
  refine x_slen (M := (M_law nm)) dL_law_36 (by decide) hx ?_
  refine x_bipush (M := (M_law nm)) dL_law_37 ?_
  refine x_isub (M := (M_law nm)) dL_law_39 ?_
  refine x_icmp_gt (M := (M_law nm)) (tgt := 2455) dL_law_40 (by decide) (fun _ => ?_) (fun q => absurd q (by decide +kernel))
  refine x_iconst (M := (M_law nm)) dL_law_2455 ?_
  exact x_zret (M := (M_law nm)) dL_law_2456 rfl (by decide) rfl (Nat.le_of_ble_eq_true rfl) (Nat.le_of_ble_eq_true rfl)
set_option maxRecDepth 10000 in
theorem q2027 {l : Launch} {E : EE} (hl : l.stackTraces = false) {h : HP} {a2 : Int32} (c0 : a2.toInt < 0) : en_C l E M_X11_slotNumbered 6 1 6 [.ref 32, .int a2] h (pT "java/lang/IndexOutOfBoundsException" [] h (fun _ => True)) := by
  refine en_mk m_X11_slotNumbered rfl hl (Nat.le_of_ble_eq_true rfl) ?_
  refine x_iload_n (M := M_X11_slotNumbered) dX11_slotNumbered_0 rfl ?_
  refine x_if_lt (M := M_X11_slotNumbered) (tgt := 10) dX11_slotNumbered_1 (by decide) (fun _ => ?_) (fun q => absurd ((bi_lt rfl (by decide +kernel)).mpr (by omega : (a2.toInt < 0 : Prop))) q)
  exact x_throw (M := M_X11_slotNumbered) (names := en_nm) rfl dX11_slotNumbered_10 dX11_slotNumbered_13 dX11_slotNumbered_14 dX11_slotNumbered_17 (by decide +kernel) en_nm_ok (Or.inl t_748) (Or.inl t_22) (at_X11_IndexOutOfBoundsException_139) (Nat.le_of_ble_eq_true rfl) (Nat.le_of_ble_eq_true rfl) (Nat.le_of_ble_eq_true rfl) (Nat.le_of_ble_eq_true rfl) (fun n9 => ⟨rfl, (fr_tr (fr_app (List.replicate n9 none)) (fun _ h => nomatch h) fr_rf), trivial⟩)
set_option maxRecDepth 10000 in
theorem q2031 {l : Launch} {E : EE} (hl : l.stackTraces = false) {h : HP} {a0 : Int32} {a1 : Int32} {a2 : Int32} (c0 : ¬ (a1.toInt < 0)) (c1 : a1.toInt < 32) (c2 : a2.toInt < 0) (o2024 : ob h 32 = some (.inr (14, [.ref 33, .ref 162, .ref 166, .int (0 : Int32), .int (0 : Int32), .int (0 : Int32), .ref 167, .ref 170, .ref 173, .ref 177, .ref 193, .ref 208, .ref 222, .ref 238, .ref 252, .ref 274, .ref 275, .ref 276, .int (0 : Int32)]))) (o2025 : ob h 33 = some (.inl (4, 32, .inr (.inr (.inr (.inr (shf 1 32))))))) : en_C l E M_X11_mustBeRelatable 7 1 6 [.ref 32, .int a0, .int a1, .int a2] h (pT "java/lang/IndexOutOfBoundsException" [] h (fun _ => True)) := by
  refine en_mk m_X11_mustBeRelatable rfl hl (Nat.le_of_ble_eq_true rfl) ?_
  refine x_aload_n (M := M_X11_mustBeRelatable) dX11_mustBeRelatable_0 rfl ?_
  refine x_iload_n (M := M_X11_mustBeRelatable) dX11_mustBeRelatable_1 rfl ?_
  refine x_callVR (M := M_X11_mustBeRelatable) (M' := M_X11_slotNumbered) rfl rfl dX11_mustBeRelatable_2 m_X11_slotNumbered t_744 t_746 s_2 (q1503 hl c0 c1 o2024 o2025) rfl rfl o2024 rfl (Nat.le_of_ble_eq_true rfl) (Nat.le_of_ble_eq_true rfl) (Nat.le_of_ble_eq_true rfl) (Nat.le_of_ble_eq_true rfl) ?_
  refine x_astore (M := M_X11_mustBeRelatable) dX11_mustBeRelatable_5 (Nat.le_of_ble_eq_true rfl) rfl ?_
  refine x_aload_n (M := M_X11_mustBeRelatable) dX11_mustBeRelatable_7 rfl ?_
  refine x_iload_n (M := M_X11_mustBeRelatable) dX11_mustBeRelatable_8 rfl ?_
  exact y_callVX (M := M_X11_mustBeRelatable) (M' := M_X11_slotNumbered) rfl rfl dX11_mustBeRelatable_9 m_X11_slotNumbered t_744 t_746 s_2 (q2027 hl c2) rfl rfl o2024 rfl (Nat.le_of_ble_eq_true rfl) (Nat.le_of_ble_eq_true rfl) (Nat.le_of_ble_eq_true rfl) (Nat.le_of_ble_eq_true rfl) (fun h2028 f2029 w2030 => ⟨rfl, (fr_tr f2029 (fun _ h => nomatch h) fr_rf), trivial⟩)
set_option maxRecDepth 10000 in
theorem q2037 {l : Launch} {E : EE} (hl : l.stackTraces = false) {h : HP} {a0 : Int32} {a1 : Int32} {a2 : Int32} (c0 : ¬ (a1.toInt < 0)) (c1 : a1.toInt < 32) (c2 : a2.toInt < 0) (o2032 : ob h 32 = some (.inr (14, [.ref 33, .ref 162, .ref 166, .int (0 : Int32), .int (0 : Int32), .int (0 : Int32), .ref 167, .ref 170, .ref 173, .ref 177, .ref 193, .ref 208, .ref 222, .ref 238, .ref 252, .ref 274, .ref 275, .ref 276, .int (0 : Int32)]))) (o2033 : ob h 33 = some (.inl (4, 32, .inr (.inr (.inr (.inr (shf 1 32))))))) : en_C l E M_X11_is 8 1 6 [.ref 32, .int a0, .int a1, .int a2] h (pT "java/lang/IndexOutOfBoundsException" [] h (fun _ => True)) := by
  refine en_mk m_X11_is rfl hl (Nat.le_of_ble_eq_true rfl) ?_
  refine x_aload_n (M := M_X11_is) dX11_is_0 rfl ?_
  refine x_iload_n (M := M_X11_is) dX11_is_1 rfl ?_
  refine x_iload_n (M := M_X11_is) dX11_is_2 rfl ?_
  refine x_iload_n (M := M_X11_is) dX11_is_3 rfl ?_
  exact y_callVX (M := M_X11_is) (M' := M_X11_mustBeRelatable) rfl rfl dX11_is_4 m_X11_mustBeRelatable t_1879 t_1881 s_104 (q2031 hl c0 c1 c2 o2032 o2033) rfl rfl o2032 rfl (Nat.le_of_ble_eq_true rfl) (Nat.le_of_ble_eq_true rfl) (Nat.le_of_ble_eq_true rfl) (Nat.le_of_ble_eq_true rfl) (fun h2034 f2035 w2036 => ⟨rfl, (fr_tr f2035 (fun _ h => nomatch h) fr_rf), trivial⟩)
set_option maxRecDepth 10000 in
theorem q2043 {l : Launch} {E : EE} (hl : l.stackTraces = false) {h : HP} {a0 : Int32} {a1 : Int32} {a2 : Int32} (c0 : ¬ (a1.toInt < 0)) (c1 : a1.toInt < 32) (c2 : a2.toInt < 0) (o2038 : ob h 32 = some (.inr (14, [.ref 33, .ref 162, .ref 166, .int (0 : Int32), .int (0 : Int32), .int (0 : Int32), .ref 167, .ref 170, .ref 173, .ref 177, .ref 193, .ref 208, .ref 222, .ref 238, .ref 252, .ref 274, .ref 275, .ref 276, .int (0 : Int32)]))) (o2039 : ob h 33 = some (.inl (4, 32, .inr (.inr (.inr (.inr (shf 1 32))))))) : en_C l E M_L_is 9 1 6 [.ref 32, .int a0, .int a1, .int a2, .ref 359] h (pF (some (.int (Int32.ofInt 1))) [] h (fun _ => True)) := by
  refine en_mkW m_L_is rfl hl (Nat.le_of_ble_eq_true rfl) ?_
  refine x_aload (M := M_L_is) dL_is_0 rfl ?_
  refine x_iconst (M := M_L_is) dL_is_2 ?_
  refine x_aload_n (M := M_L_is) dL_is_3 rfl ?_
  refine x_iload_n (M := M_L_is) dL_is_4 rfl ?_
  refine x_iload_n (M := M_L_is) dL_is_5 rfl ?_
  refine x_iload_n (M := M_L_is) dL_is_6 rfl ?_
  refine y_callVHX (M := M_L_is) (M' := M_X11_is) (i9 := 5) (nx := 24) rfl dL_is_7 m_X11_is t_2038 t_2039 t_2040 o2038 rfl (q2037 hl c0 c1 c2 o2038 o2039) rfl rfl (Nat.le_of_ble_eq_true rfl) (Nat.le_of_ble_eq_true rfl) (Nat.le_of_ble_eq_true rfl) (Nat.le_of_ble_eq_true rfl) (en_hdm (k0 := 5) [] [(0, 19, 26, 13), (0, 19, 30, 19), (0, 19, 34, 63)] rfl (fun _ h => nomatch h) (by decide +kernel) (by decide) t_739 n_750 dL_is_22) (by decide) rfl (fun h2040 f2041 w2042 => ?_)
  refine x_iconst (M := M_L_is) dL_is_24 ?_
  exact x_iret (M := M_L_is) dL_is_25 rfl ⟨rfl, (fr_tr f2041 (fun _ h => nomatch h) fr_rf), trivial⟩ (Nat.le_of_ble_eq_true rfl) (Nat.le_of_ble_eq_true rfl)
set_option maxRecDepth 10000 in
theorem q2053 {l : Launch} {E : EE} (hl : l.stackTraces = false) {h : HP} {a2 : Int32} (c0 : a2.toInt < 0) : en_C l E M_X12_isSlot 0 0 0 [.int a2] h (pR (some (.int (Int32.ofInt 0))) h) := by
  refine en_mk m_X12_isSlot rfl hl (Nat.le_of_ble_eq_true rfl) ?_
  refine x_iload_n (M := M_X12_isSlot) dX12_isSlot_0 rfl ?_
  refine x_if_lt (M := M_X12_isSlot) (tgt := 14) dX12_isSlot_1 (by decide) (fun _ => ?_) (fun q => absurd ((bi_lt rfl (by decide +kernel)).mpr (by omega : (a2.toInt < 0 : Prop))) q)
  refine x_iconst (M := M_X12_isSlot) dX12_isSlot_14 ?_
  exact x_zret (M := M_X12_isSlot) dX12_isSlot_15 rfl (by decide) ⟨rfl, rfl⟩ (Nat.le_of_ble_eq_true rfl) (Nat.le_of_ble_eq_true rfl)
set_option maxRecDepth 10000 in
theorem q2058 {l : Launch} {E : EE} (hl : l.stackTraces = false) {h : HP} {a0 : Int32} {a1 : Int32} {a2 : Int32} {dg : Int32} (c0 : ¬ (a1.toInt < 0)) (c1 : a1.toInt < 32) (c2 : a2.toInt < 0) (o2049 : ob h 277 = some (.inr (15, (RB dg)))) : en_C l E M_X12_is 1 0 0 [.ref 277, .int a0, .int a1, .int a2] h (pF (some (.int (Int32.ofInt 0))) [277] h (fun h' => ob h' 277 = some (.inr (15, ((RB dg).set 0 (.int (Int32.ofInt 1))))) ∧ True)) := by
  refine en_mk m_X12_is rfl hl (Nat.le_of_ble_eq_true rfl) ?_
  refine x_aload_n (M := M_X12_is) dX12_is_0 rfl ?_
  refine x_iconst (M := M_X12_is) dX12_is_1 ?_
  refine y_put (M := M_X12_is) (ci := 15) (C := RX12) (T := TX12) (N := 135) (ty := tyX12) cl15 dX12_is_2 o2049 0 (by decide) t_2391 (Or.inl rfl) (Nat.le_of_ble_eq_true rfl) rfl (fun h2050 w2051 f2052 => ?_)
  refine x_aload_n (M := M_X12_is) dX12_is_5 rfl ?_
  refine x_iload_n (M := M_X12_is) dX12_is_6 rfl ?_
  refine x_callSR (M := M_X12_is) (M' := M_X12_isSlot) rfl rfl dX12_is_7 m_X12_isSlot t_2841 t_2842 (q1536 hl c0 c1) rfl rfl (Nat.le_of_ble_eq_true rfl) (Nat.le_of_ble_eq_true rfl) (Nat.le_of_ble_eq_true rfl) (Nat.le_of_ble_eq_true rfl) ?_
  refine x_if_eq (M := M_X12_is) (tgt := 20) dX12_is_10 (by decide) (fun q => absurd q (by decide +kernel)) (fun _ => ?_)
  refine x_iload_n (M := M_X12_is) dX12_is_13 rfl ?_
  refine x_callSR (M := M_X12_is) (M' := M_X12_isSlot) rfl rfl dX12_is_14 m_X12_isSlot t_2841 t_2842 (q2053 hl c2) rfl rfl (Nat.le_of_ble_eq_true rfl) (Nat.le_of_ble_eq_true rfl) (Nat.le_of_ble_eq_true rfl) (Nat.le_of_ble_eq_true rfl) ?_
  refine x_if_ne (M := M_X12_is) (tgt := 24) dX12_is_17 (by decide) (fun q => absurd q (by decide +kernel)) (fun _ => ?_)
  refine x_iconst (M := M_X12_is) dX12_is_20 ?_
  refine x_goto (M := M_X12_is) (tgt := 25) dX12_is_21 (by decide) ?_
  refine x_iconst (M := M_X12_is) dX12_is_25 ?_
  refine y_callVR (M := M_X12_is) (M' := M_X12_fails) rfl rfl dX12_is_26 m_X12_fails t_2805 t_2807 s_157 (q22 hl w2051) rfl rfl w2051 rfl (Nat.le_of_ble_eq_true rfl) (Nat.le_of_ble_eq_true rfl) (Nat.le_of_ble_eq_true rfl) (Nat.le_of_ble_eq_true rfl) (fun h2054 f2055 w2056 => ?_)
  obtain ⟨o2057, -⟩ := w2056
  refine x_if_ne (M := M_X12_is) (tgt := 61) dX12_is_29 (by decide) (fun _ => ?_) (fun q => absurd q (by decide +kernel))
  refine x_iconst (M := M_X12_is) dX12_is_61 ?_
  exact x_zret (M := M_X12_is) dX12_is_62 rfl (by decide) ⟨rfl, (fr_tr f2055 (by decide) (fr_tr f2052 (by decide) fr_rf)), ⟨o2057, trivial⟩⟩ (Nat.le_of_ble_eq_true rfl) (Nat.le_of_ble_eq_true rfl)
set_option maxRecDepth 10000 in
theorem lc16_1 {l : Launch} {E : EE} (hl : l.stackTraces = false) (nm : String) {xs : Nat → Int32} (hx : E.2.2.2.2 0 = some (7, xs)) {h : HP} {a0 : Int32} {a1 : Int32} {a2 : Int32} {dg : Int32} (e2 : xs 2 = a0) (e3 : xs 3 = a1) (e4 : xs 4 = a2) (c0 : ¬ (a1.toInt < 0)) (c1 : a1.toInt < 32) (c2 : a2.toInt < 0) (o2044 : ob h 32 = some (.inr (14, [.ref 33, .ref 162, .ref 166, .int (0 : Int32), .int (0 : Int32), .int (0 : Int32), .ref 167, .ref 170, .ref 173, .ref 177, .ref 193, .ref 208, .ref 222, .ref 238, .ref 252, .ref 274, .ref 275, .ref 276, .int (0 : Int32)]))) (o2045 : ob h 33 = some (.inl (4, 32, .inr (.inr (.inr (.inr (shf 1 32))))))) (o2059 : ob h 277 = some (.inr (15, (RB dg)))) : XX l E (M_law nm) 1312 342628 8074320 (fun o _ => o = .inl (some (.int 1))) 1191 [some (.ref 0), some (.ref 32), some (.ref 277), some (.ref 359), some (.int (Int32.ofInt 1)), none, none, none] [] h 328 2463747 := by
  refine x_aload_n (M := (M_law nm)) dL_law_1191 rfl ?_
  refine x_aload_n (M := (M_law nm)) dL_law_1192 rfl ?_
  refine x_iload (M := (M_law nm)) dL_law_1193 rfl ?_
  refine x_iconst (M := (M_law nm)) dL_law_1195 ?_
  refine x_iadd (M := (M_law nm)) dL_law_1196 ?_
  refine x_sald (M := (M_law nm)) dL_law_1197 (by decide) hx (vp_inD (by decide +kernel)) ?_
  refine x_top (M := (M_law nm)) (y := a0) ((congrArg xs (by decide +kernel : ((Int32.ofInt 1) + (Int32.ofInt 1)).toNatClampNeg = 2)).trans e2) ?_
  refine x_aload_n (M := (M_law nm)) dL_law_1198 rfl ?_
  refine x_iload (M := (M_law nm)) dL_law_1199 rfl ?_
  refine x_iconst (M := (M_law nm)) dL_law_1201 ?_
  refine x_iadd (M := (M_law nm)) dL_law_1202 ?_
  refine x_sald (M := (M_law nm)) dL_law_1203 (by decide) hx (vp_inD (by decide +kernel)) ?_
  refine x_top (M := (M_law nm)) (y := a1) ((congrArg xs (by decide +kernel : ((Int32.ofInt 1) + (Int32.ofInt 2)).toNatClampNeg = 3)).trans e3) ?_
  refine x_aload_n (M := (M_law nm)) dL_law_1204 rfl ?_
  refine x_iload (M := (M_law nm)) dL_law_1205 rfl ?_
  refine x_iconst (M := (M_law nm)) dL_law_1207 ?_
  refine x_iadd (M := (M_law nm)) dL_law_1208 ?_
  refine x_sald (M := (M_law nm)) dL_law_1209 (by decide) hx (vp_inD (by decide +kernel)) ?_
  refine x_top (M := (M_law nm)) (y := a2) ((congrArg xs (by decide +kernel : ((Int32.ofInt 1) + (Int32.ofInt 3)).toNatClampNeg = 4)).trans e4) ?_
  refine x_aload_n (M := (M_law nm)) dL_law_1210 rfl ?_
  refine y_callSW (M := (M_law nm)) (M' := M_L_is) rfl rfl dL_law_1211 m_L_is t_2035 t_2036 (q2043 hl c0 c1 c2 o2044 o2045) rfl rfl (Nat.le_of_ble_eq_true rfl) (Nat.le_of_ble_eq_true rfl) (Nat.le_of_ble_eq_true rfl) (Nat.le_of_ble_eq_true rfl) (fun h2046 f2047 w2048 => ?_)
  refine x_istore (M := (M_law nm)) dL_law_1214 (Nat.le_of_ble_eq_true rfl) rfl ?_
  refine x_aload_n (M := (M_law nm)) dL_law_1216 rfl ?_
  refine x_aload_n (M := (M_law nm)) dL_law_1217 rfl ?_
  refine x_iload (M := (M_law nm)) dL_law_1218 rfl ?_
  refine x_iconst (M := (M_law nm)) dL_law_1220 ?_
  refine x_iadd (M := (M_law nm)) dL_law_1221 ?_
  refine x_sald (M := (M_law nm)) dL_law_1222 (by decide) hx (vp_inD (by decide +kernel)) ?_
  refine x_top (M := (M_law nm)) (y := a0) ((congrArg xs (by decide +kernel : ((Int32.ofInt 1) + (Int32.ofInt 1)).toNatClampNeg = 2)).trans e2) ?_
  refine x_aload_n (M := (M_law nm)) dL_law_1223 rfl ?_
  refine x_iload (M := (M_law nm)) dL_law_1224 rfl ?_
  refine x_iconst (M := (M_law nm)) dL_law_1226 ?_
  refine x_iadd (M := (M_law nm)) dL_law_1227 ?_
  refine x_sald (M := (M_law nm)) dL_law_1228 (by decide) hx (vp_inD (by decide +kernel)) ?_
  refine x_top (M := (M_law nm)) (y := a1) ((congrArg xs (by decide +kernel : ((Int32.ofInt 1) + (Int32.ofInt 2)).toNatClampNeg = 3)).trans e3) ?_
  refine x_aload_n (M := (M_law nm)) dL_law_1229 rfl ?_
  refine x_iload (M := (M_law nm)) dL_law_1230 rfl ?_
  refine x_iconst (M := (M_law nm)) dL_law_1232 ?_
  refine x_iadd (M := (M_law nm)) dL_law_1233 ?_
  refine x_sald (M := (M_law nm)) dL_law_1234 (by decide) hx (vp_inD (by decide +kernel)) ?_
  refine x_top (M := (M_law nm)) (y := a2) ((congrArg xs (by decide +kernel : ((Int32.ofInt 1) + (Int32.ofInt 3)).toNatClampNeg = 4)).trans e4) ?_
  have o2060 := (f2047 277 _ (by decide) o2059)
  refine y_callVR (M := (M_law nm)) (M' := M_X12_is) rfl rfl dL_law_1235 m_X12_is t_3596 t_3597 t_3598 (q2058 hl c0 c1 c2 o2060) rfl rfl o2060 rfl (Nat.le_of_ble_eq_true rfl) (Nat.le_of_ble_eq_true rfl) (Nat.le_of_ble_eq_true rfl) (Nat.le_of_ble_eq_true rfl) (fun h2061 f2062 w2063 => ?_)
  obtain ⟨o2064, -⟩ := w2063
  refine x_istore (M := (M_law nm)) dL_law_1238 (Nat.le_of_ble_eq_true rfl) rfl ?_
  refine x_aload_n (M := (M_law nm)) dL_law_1240 rfl ?_
  refine x_callVR (M := (M_law nm)) (M' := M_X12_thrown) rfl rfl dL_law_1241 m_X12_thrown t_2797 t_2798 t_2799 (q35 hl o2064) rfl rfl o2064 rfl (Nat.le_of_ble_eq_true rfl) (Nat.le_of_ble_eq_true rfl) (Nat.le_of_ble_eq_true rfl) (Nat.le_of_ble_eq_true rfl) ?_
  refine x_iload (M := (M_law nm)) dL_law_1244 rfl ?_
  refine x_icmp_eq (M := (M_law nm)) (tgt := 1251) dL_law_1246 (by decide) (fun _ => ?_) (fun q => absurd q (by decide +kernel))
  refine x_iload (M := (M_law nm)) dL_law_1251 rfl ?_
  refine x_if_ne (M := (M_law nm)) (tgt := 1275) dL_law_1253 (by decide) (fun _ => ?_) (fun q => absurd q (by decide +kernel))
  refine x_goto (M := (M_law nm)) (tgt := 2449) dL_law_1275 (by decide) ?_
  refine x_iinc (M := (M_law nm)) dL_law_2449 rfl (Nat.le_of_ble_eq_true rfl) rfl ?_
  refine x_lvs (M := (M_law nm)) (lv' := [some (.ref 0), some (.ref 32), some (.ref 277), some (.ref 359), some (.int (Int32.ofInt 7)), some (.int (Int32.ofInt 1)), some (.int (Int32.ofInt 0)), none]) (by rw [(by decide +kernel : (Int32.ofInt 1) + Int32.ofInt 6 = (Int32.ofInt 7))] <;> rfl) ?_
  refine x_goto (M := (M_law nm)) (tgt := 33) dL_law_2452 (by decide) ?_
  refine x_iload (M := (M_law nm)) dL_law_33 rfl ?_
  refine x_aload_n (M := (M_law nm)) dL_law_35 rfl ?_
  refine x_slen (M := (M_law nm)) dL_law_36 (by decide) hx ?_
  refine x_bipush (M := (M_law nm)) dL_law_37 ?_
  refine x_isub (M := (M_law nm)) dL_law_39 ?_
  refine x_icmp_gt (M := (M_law nm)) (tgt := 2455) dL_law_40 (by decide) (fun _ => ?_) (fun q => absurd q (by decide +kernel))
  refine x_iconst (M := (M_law nm)) dL_law_2455 ?_
  exact x_zret (M := (M_law nm)) dL_law_2456 rfl (by decide) rfl (Nat.le_of_ble_eq_true rfl) (Nat.le_of_ble_eq_true rfl)
set_option maxRecDepth 10000 in
theorem q2071 {l : Launch} {E : EE} (hl : l.stackTraces = false) {h : HP} {a2 : Int32} (c0 : ¬ (a2.toInt < 0)) (c1 : a2.toInt < 32) (o2069 : ob h 32 = some (.inr (14, [.ref 33, .ref 162, .ref 166, .int (0 : Int32), .int (0 : Int32), .int (0 : Int32), .ref 167, .ref 170, .ref 173, .ref 177, .ref 193, .ref 208, .ref 222, .ref 238, .ref 252, .ref 274, .ref 275, .ref 276, .int (0 : Int32)]))) (o2070 : ob h 33 = some (.inl (4, 32, .inr (.inr (.inr (.inr (shf 1 32))))))) : en_C l E M_X11_slotNumbered 0 0 0 [.ref 32, .int a2] h (pR (some (.ref (34 + 4 * a2.toNatClampNeg))) h) := by
  have n_a2 : a2.toNatClampNeg < 32 := nc_lt (by omega) (by decide)
  refine en_mk m_X11_slotNumbered rfl hl (Nat.le_of_ble_eq_true rfl) ?_
  refine x_iload_n (M := M_X11_slotNumbered) dX11_slotNumbered_0 rfl ?_
  refine x_if_lt (M := M_X11_slotNumbered) (tgt := 10) dX11_slotNumbered_1 (by decide) (fun q => absurd ((bi_lt rfl (by decide +kernel)).mp q) (by omega : ¬ (a2.toInt < 0))) (fun _ => ?_)
  refine x_iload_n (M := M_X11_slotNumbered) dX11_slotNumbered_4 rfl ?_
  refine x_bipush (M := M_X11_slotNumbered) dX11_slotNumbered_5 ?_
  refine x_icmp_lt (M := M_X11_slotNumbered) (tgt := 18) dX11_slotNumbered_7 (by decide) (fun _ => ?_) (fun q => absurd ((bi_lt rfl (by decide +kernel)).mpr (by omega : (a2.toInt < 32 : Prop))) q)
  refine x_aload_n (M := M_X11_slotNumbered) dX11_slotNumbered_18 rfl ?_
  refine x_getf (M := M_X11_slotNumbered) (ci := 14) (C := RX11) (T := TX11) (N := 19) (ty := tyX11) cl14 dX11_slotNumbered_19 o2069 0 (by decide) t_563 (v := .ref 33) rfl ?_
  refine x_iload_n (M := M_X11_slotNumbered) dX11_slotNumbered_22 rfl ?_
  refine x_aald (M := M_X11_slotNumbered) (b := 34 + 4 * a2.toNatClampNeg) dX11_slotNumbered_23 o2070 (vp_in_s (by omega) (by omega)) (shf_at n_a2) ?_
  exact x_aret (M := M_X11_slotNumbered) dX11_slotNumbered_24 rfl ⟨rfl, rfl⟩ (Nat.le_of_ble_eq_true rfl) (Nat.le_of_ble_eq_true rfl)
set_option maxRecDepth 10000 in
theorem q2073 {l : Launch} {E : EE} (hl : l.stackTraces = false) {h : HP} {a1 : Int32} (c0 : ¬ (a1.toInt < 0)) (c1 : a1.toInt < 32) (o2072 : ob h (34 + 4 * a1.toNatClampNeg) = some (.inr (9, [.ref (35 + 4 * a1.toNatClampNeg), .ref (36 + 4 * a1.toNatClampNeg), .ref (37 + 4 * a1.toNatClampNeg), .int (0 : Int32), .int (0 : Int32)]))) : en_C l E M_X6_isThere 0 0 0 [.ref (34 + 4 * a1.toNatClampNeg)] h (pR (some (.int (Int32.ofInt 0))) h) := by
  have n_a1 : a1.toNatClampNeg < 32 := nc_lt (by omega) (by decide)
  refine en_mk m_X6_isThere rfl hl (Nat.le_of_ble_eq_true rfl) ?_
  refine x_aload_n (M := M_X6_isThere) dX6_isThere_0 rfl ?_
  refine x_getf (M := M_X6_isThere) (ci := 9) (C := RX6) (T := TX6) (N := 5) (ty := tyX6) cl9 dX6_isThere_1 o2072 3 (by decide) t_72 (v := .int (0 : Int32)) rfl ?_
  refine x_if_le (M := M_X6_isThere) (tgt := 11) dX6_isThere_4 (by decide) (fun _ => ?_) (fun q => absurd q (by decide +kernel))
  refine x_iconst (M := M_X6_isThere) dX6_isThere_11 ?_
  exact x_zret (M := M_X6_isThere) dX6_isThere_12 rfl (by decide) ⟨rfl, rfl⟩ (Nat.le_of_ble_eq_true rfl) (Nat.le_of_ble_eq_true rfl)
set_option maxRecDepth 10000 in
theorem q2076 {l : Launch} {E : EE} (hl : l.stackTraces = false) {h : HP} {a1 : Int32} (c0 : ¬ (a1.toInt < 0)) (c1 : a1.toInt < 32) (o2074 : ob h (34 + 4 * a1.toNatClampNeg) = some (.inr (9, [.ref (35 + 4 * a1.toNatClampNeg), .ref (36 + 4 * a1.toNatClampNeg), .ref (37 + 4 * a1.toNatClampNeg), .int (0 : Int32), .int (0 : Int32)]))) : en_C l E M_X11_mustBeThere 6 1 6 [.ref (34 + 4 * a1.toNatClampNeg)] h (pT "java/lang/IllegalStateException" [] h (fun _ => True)) := by
  have n_a1 : a1.toNatClampNeg < 32 := nc_lt (by omega) (by decide)
  refine en_mk m_X11_mustBeThere rfl hl (Nat.le_of_ble_eq_true rfl) ?_
  refine x_aload_n (M := M_X11_mustBeThere) dX11_mustBeThere_0 rfl ?_
  refine x_callVR (M := M_X11_mustBeThere) (M' := M_X6_isThere) rfl rfl dX11_mustBeThere_1 m_X6_isThere t_1050 t_1051 t_1052 (q2073 hl c0 c1 o2074) rfl rfl o2074 rfl (Nat.le_of_ble_eq_true rfl) (Nat.le_of_ble_eq_true rfl) (Nat.le_of_ble_eq_true rfl) (Nat.le_of_ble_eq_true rfl) ?_
  refine x_if_ne (M := M_X11_mustBeThere) (tgt := 15) dX11_mustBeThere_4 (by decide) (fun q => absurd q (by decide +kernel)) (fun _ => ?_)
  exact x_throw (M := M_X11_mustBeThere) (names := en_nm) rfl dX11_mustBeThere_7 dX11_mustBeThere_10 dX11_mustBeThere_11 dX11_mustBeThere_14 (by decide +kernel) en_nm_ok (Or.inl t_643) (Or.inl t_18) (at_X11_IllegalStateException_112) (Nat.le_of_ble_eq_true rfl) (Nat.le_of_ble_eq_true rfl) (Nat.le_of_ble_eq_true rfl) (Nat.le_of_ble_eq_true rfl) (fun n9 => ⟨rfl, (fr_tr (fr_app (List.replicate n9 none)) (fun _ h => nomatch h) fr_rf), trivial⟩)
set_option maxRecDepth 10000 in
theorem q2081 {l : Launch} {E : EE} (hl : l.stackTraces = false) {h : HP} {a0 : Int32} {a1 : Int32} {a2 : Int32} (c0 : ¬ (a1.toInt < 0)) (c1 : a1.toInt < 32) (c2 : ¬ (a2.toInt < 0)) (c3 : a2.toInt < 32) (o2067 : ob h 32 = some (.inr (14, [.ref 33, .ref 162, .ref 166, .int (0 : Int32), .int (0 : Int32), .int (0 : Int32), .ref 167, .ref 170, .ref 173, .ref 177, .ref 193, .ref 208, .ref 222, .ref 238, .ref 252, .ref 274, .ref 275, .ref 276, .int (0 : Int32)]))) (o2068 : ob h 33 = some (.inl (4, 32, .inr (.inr (.inr (.inr (shf 1 32))))))) (o2077 : ob h (34 + 4 * a1.toNatClampNeg) = some (.inr (9, [.ref (35 + 4 * a1.toNatClampNeg), .ref (36 + 4 * a1.toNatClampNeg), .ref (37 + 4 * a1.toNatClampNeg), .int (0 : Int32), .int (0 : Int32)]))) : en_C l E M_X11_mustBeRelatable 7 1 6 [.ref 32, .int a0, .int a1, .int a2] h (pT "java/lang/IllegalStateException" [] h (fun _ => True)) := by
  have n_a1 : a1.toNatClampNeg < 32 := nc_lt (by omega) (by decide)
  refine en_mk m_X11_mustBeRelatable rfl hl (Nat.le_of_ble_eq_true rfl) ?_
  refine x_aload_n (M := M_X11_mustBeRelatable) dX11_mustBeRelatable_0 rfl ?_
  refine x_iload_n (M := M_X11_mustBeRelatable) dX11_mustBeRelatable_1 rfl ?_
  refine x_callVR (M := M_X11_mustBeRelatable) (M' := M_X11_slotNumbered) rfl rfl dX11_mustBeRelatable_2 m_X11_slotNumbered t_744 t_746 s_2 (q1503 hl c0 c1 o2067 o2068) rfl rfl o2067 rfl (Nat.le_of_ble_eq_true rfl) (Nat.le_of_ble_eq_true rfl) (Nat.le_of_ble_eq_true rfl) (Nat.le_of_ble_eq_true rfl) ?_
  refine x_astore (M := M_X11_mustBeRelatable) dX11_mustBeRelatable_5 (Nat.le_of_ble_eq_true rfl) rfl ?_
  refine x_aload_n (M := M_X11_mustBeRelatable) dX11_mustBeRelatable_7 rfl ?_
  refine x_iload_n (M := M_X11_mustBeRelatable) dX11_mustBeRelatable_8 rfl ?_
  refine x_callVR (M := M_X11_mustBeRelatable) (M' := M_X11_slotNumbered) rfl rfl dX11_mustBeRelatable_9 m_X11_slotNumbered t_744 t_746 s_2 (q2071 hl c2 c3 o2067 o2068) rfl rfl o2067 rfl (Nat.le_of_ble_eq_true rfl) (Nat.le_of_ble_eq_true rfl) (Nat.le_of_ble_eq_true rfl) (Nat.le_of_ble_eq_true rfl) ?_
  refine x_astore (M := M_X11_mustBeRelatable) dX11_mustBeRelatable_12 (Nat.le_of_ble_eq_true rfl) rfl ?_
  refine x_aload (M := M_X11_mustBeRelatable) dX11_mustBeRelatable_14 rfl ?_
  exact y_callSX (M := M_X11_mustBeRelatable) (M' := M_X11_mustBeThere) rfl rfl dX11_mustBeRelatable_16 m_X11_mustBeThere t_1047 t_1048 (q2076 hl c0 c1 o2077) rfl rfl (Nat.le_of_ble_eq_true rfl) (Nat.le_of_ble_eq_true rfl) (Nat.le_of_ble_eq_true rfl) (Nat.le_of_ble_eq_true rfl) (fun h2078 f2079 w2080 => ⟨rfl, (fr_tr f2079 (fun _ h => nomatch h) fr_rf), trivial⟩)
set_option maxRecDepth 10000 in
theorem q2088 {l : Launch} {E : EE} (hl : l.stackTraces = false) {h : HP} {a0 : Int32} {a1 : Int32} {a2 : Int32} (c0 : ¬ (a1.toInt < 0)) (c1 : a1.toInt < 32) (c2 : ¬ (a2.toInt < 0)) (c3 : a2.toInt < 32) (o2082 : ob h 32 = some (.inr (14, [.ref 33, .ref 162, .ref 166, .int (0 : Int32), .int (0 : Int32), .int (0 : Int32), .ref 167, .ref 170, .ref 173, .ref 177, .ref 193, .ref 208, .ref 222, .ref 238, .ref 252, .ref 274, .ref 275, .ref 276, .int (0 : Int32)]))) (o2083 : ob h 33 = some (.inl (4, 32, .inr (.inr (.inr (.inr (shf 1 32))))))) (o2084 : ob h (34 + 4 * a1.toNatClampNeg) = some (.inr (9, [.ref (35 + 4 * a1.toNatClampNeg), .ref (36 + 4 * a1.toNatClampNeg), .ref (37 + 4 * a1.toNatClampNeg), .int (0 : Int32), .int (0 : Int32)]))) : en_C l E M_X11_is 8 1 6 [.ref 32, .int a0, .int a1, .int a2] h (pT "java/lang/IllegalStateException" [] h (fun _ => True)) := by
  have n_a1 : a1.toNatClampNeg < 32 := nc_lt (by omega) (by decide)
  refine en_mk m_X11_is rfl hl (Nat.le_of_ble_eq_true rfl) ?_
  refine x_aload_n (M := M_X11_is) dX11_is_0 rfl ?_
  refine x_iload_n (M := M_X11_is) dX11_is_1 rfl ?_
  refine x_iload_n (M := M_X11_is) dX11_is_2 rfl ?_
  refine x_iload_n (M := M_X11_is) dX11_is_3 rfl ?_
  exact y_callVX (M := M_X11_is) (M' := M_X11_mustBeRelatable) rfl rfl dX11_is_4 m_X11_mustBeRelatable t_1879 t_1881 s_104 (q2081 hl c0 c1 c2 c3 o2082 o2083 o2084) rfl rfl o2082 rfl (Nat.le_of_ble_eq_true rfl) (Nat.le_of_ble_eq_true rfl) (Nat.le_of_ble_eq_true rfl) (Nat.le_of_ble_eq_true rfl) (fun h2085 f2086 w2087 => ⟨rfl, (fr_tr f2086 (fun _ h => nomatch h) fr_rf), trivial⟩)
set_option maxRecDepth 10000 in
theorem q2095 {l : Launch} {E : EE} (hl : l.stackTraces = false) {h : HP} {a0 : Int32} {a1 : Int32} {a2 : Int32} (c0 : ¬ (a1.toInt < 0)) (c1 : a1.toInt < 32) (c2 : ¬ (a2.toInt < 0)) (c3 : a2.toInt < 32) (o2089 : ob h 32 = some (.inr (14, [.ref 33, .ref 162, .ref 166, .int (0 : Int32), .int (0 : Int32), .int (0 : Int32), .ref 167, .ref 170, .ref 173, .ref 177, .ref 193, .ref 208, .ref 222, .ref 238, .ref 252, .ref 274, .ref 275, .ref 276, .int (0 : Int32)]))) (o2090 : ob h 33 = some (.inl (4, 32, .inr (.inr (.inr (.inr (shf 1 32))))))) (o2091 : ob h (34 + 4 * a1.toNatClampNeg) = some (.inr (9, [.ref (35 + 4 * a1.toNatClampNeg), .ref (36 + 4 * a1.toNatClampNeg), .ref (37 + 4 * a1.toNatClampNeg), .int (0 : Int32), .int (0 : Int32)]))) : en_C l E M_L_is 9 1 6 [.ref 32, .int a0, .int a1, .int a2, .ref 359] h (pF (some (.int (Int32.ofInt 2))) [] h (fun _ => True)) := by
  have n_a1 : a1.toNatClampNeg < 32 := nc_lt (by omega) (by decide)
  refine en_mkW m_L_is rfl hl (Nat.le_of_ble_eq_true rfl) ?_
  refine x_aload (M := M_L_is) dL_is_0 rfl ?_
  refine x_iconst (M := M_L_is) dL_is_2 ?_
  refine x_aload_n (M := M_L_is) dL_is_3 rfl ?_
  refine x_iload_n (M := M_L_is) dL_is_4 rfl ?_
  refine x_iload_n (M := M_L_is) dL_is_5 rfl ?_
  refine x_iload_n (M := M_L_is) dL_is_6 rfl ?_
  refine y_callVHX (M := M_L_is) (M' := M_X11_is) (i9 := 5) (nx := 28) rfl dL_is_7 m_X11_is t_2038 t_2039 t_2040 o2089 rfl (q2088 hl c0 c1 c2 c3 o2089 o2090 o2091) rfl rfl (Nat.le_of_ble_eq_true rfl) (Nat.le_of_ble_eq_true rfl) (Nat.le_of_ble_eq_true rfl) (Nat.le_of_ble_eq_true rfl) (en_hdm (k0 := 5) [(0, 19, 22, 24)] [(0, 19, 30, 19), (0, 19, 34, 63)] rfl (List.forall_mem_cons.mpr ⟨⟨by decide, "java/lang/IndexOutOfBoundsException", t_739, by decide +kernel, by decide +kernel, by decide +kernel⟩, (fun _ h => nomatch h)⟩) (by decide +kernel) (by decide) t_637 n_645 dL_is_26) (by decide) rfl (fun h2092 f2093 w2094 => ?_)
  refine x_iconst (M := M_L_is) dL_is_28 ?_
  exact x_iret (M := M_L_is) dL_is_29 rfl ⟨rfl, (fr_tr f2093 (fun _ h => nomatch h) fr_rf), trivial⟩ (Nat.le_of_ble_eq_true rfl) (Nat.le_of_ble_eq_true rfl)
set_option maxRecDepth 10000 in
theorem q2106 {l : Launch} {E : EE} (hl : l.stackTraces = false) {h : HP} {a2 : Int32} (c0 : ¬ (a2.toInt < 0)) (c1 : a2.toInt < 32) : en_C l E M_X12_isSlot 0 0 0 [.int a2] h (pR (some (.int (Int32.ofInt 1))) h) := by
  refine en_mk m_X12_isSlot rfl hl (Nat.le_of_ble_eq_true rfl) ?_
  refine x_iload_n (M := M_X12_isSlot) dX12_isSlot_0 rfl ?_
  refine x_if_lt (M := M_X12_isSlot) (tgt := 14) dX12_isSlot_1 (by decide) (fun q => absurd ((bi_lt rfl (by decide +kernel)).mp q) (by omega : ¬ (a2.toInt < 0))) (fun _ => ?_)
  refine x_iload_n (M := M_X12_isSlot) dX12_isSlot_4 rfl ?_
  refine x_bipush (M := M_X12_isSlot) dX12_isSlot_5 ?_
  refine x_icmp_ge (M := M_X12_isSlot) (tgt := 14) dX12_isSlot_7 (by decide) (fun q => absurd ((bi_le (by decide +kernel) rfl).mp q) (by omega : ¬ (32 ≤ a2.toInt))) (fun _ => ?_)
  refine x_iconst (M := M_X12_isSlot) dX12_isSlot_10 ?_
  refine x_goto (M := M_X12_isSlot) (tgt := 15) dX12_isSlot_11 (by decide) ?_
  exact x_zret (M := M_X12_isSlot) dX12_isSlot_15 rfl (by decide) ⟨rfl, rfl⟩ (Nat.le_of_ble_eq_true rfl) (Nat.le_of_ble_eq_true rfl)
set_option maxRecDepth 10000 in
theorem q2113 {l : Launch} {E : EE} (hl : l.stackTraces = false) {h : HP} {a1 : Int32} {dg : Int32} (c0 : ¬ (a1.toInt < 0)) (c1 : a1.toInt < 32) (o2111 : ob h 277 = some (.inr (15, ((RB dg).set 0 (.int (Int32.ofInt 0)))))) (o2112 : ob h 280 = some (.inl (0, 33, .inl (fun _ => 0)))) : en_C l E M_X12_has 0 0 0 [.ref 277, .int a1] h (pR (some (.int (Int32.ofInt 0))) h) := by
  refine en_mk m_X12_has rfl hl (Nat.le_of_ble_eq_true rfl) ?_
  refine x_aload_n (M := M_X12_has) dX12_has_0 rfl ?_
  refine x_getf (M := M_X12_has) (ci := 15) (C := RX12) (T := TX12) (N := 135) (ty := tyX12) cl15 dX12_has_1 o2111 9 (by decide) t_2400 (v := .ref 280) rfl ?_
  refine x_iload_n (M := M_X12_has) dX12_has_4 rfl ?_
  refine x_iald (M := M_X12_has) dX12_has_5 o2112 (vp_in_s (by omega) (by omega)) ?_
  refine x_top (M := M_X12_has) (y := (Int32.ofInt 0)) rfl ?_
  refine x_if_le (M := M_X12_has) (tgt := 13) dX12_has_6 (by decide) (fun _ => ?_) (fun q => absurd q (by decide +kernel))
  refine x_iconst (M := M_X12_has) dX12_has_13 ?_
  exact x_zret (M := M_X12_has) dX12_has_14 rfl (by decide) ⟨rfl, rfl⟩ (Nat.le_of_ble_eq_true rfl) (Nat.le_of_ble_eq_true rfl)
set_option maxRecDepth 10000 in
theorem q2120 {l : Launch} {E : EE} (hl : l.stackTraces = false) {h : HP} {a0 : Int32} {a1 : Int32} {a2 : Int32} {dg : Int32} (c0 : ¬ (a1.toInt < 0)) (c1 : a1.toInt < 32) (c2 : ¬ (a2.toInt < 0)) (c3 : a2.toInt < 32) (o2102 : ob h 277 = some (.inr (15, (RB dg)))) (o2114 : ob h 280 = some (.inl (0, 33, .inl (fun _ => 0)))) : en_C l E M_X12_is 1 0 0 [.ref 277, .int a0, .int a1, .int a2] h (pF (some (.int (Int32.ofInt 0))) [277] h (fun h' => ob h' 277 = some (.inr (15, ((RB dg).set 0 (.int (Int32.ofInt 2))))) ∧ True)) := by
  refine en_mk m_X12_is rfl hl (Nat.le_of_ble_eq_true rfl) ?_
  refine x_aload_n (M := M_X12_is) dX12_is_0 rfl ?_
  refine x_iconst (M := M_X12_is) dX12_is_1 ?_
  refine y_put (M := M_X12_is) (ci := 15) (C := RX12) (T := TX12) (N := 135) (ty := tyX12) cl15 dX12_is_2 o2102 0 (by decide) t_2391 (Or.inl rfl) (Nat.le_of_ble_eq_true rfl) rfl (fun h2103 w2104 f2105 => ?_)
  refine x_aload_n (M := M_X12_is) dX12_is_5 rfl ?_
  refine x_iload_n (M := M_X12_is) dX12_is_6 rfl ?_
  refine x_callSR (M := M_X12_is) (M' := M_X12_isSlot) rfl rfl dX12_is_7 m_X12_isSlot t_2841 t_2842 (q1536 hl c0 c1) rfl rfl (Nat.le_of_ble_eq_true rfl) (Nat.le_of_ble_eq_true rfl) (Nat.le_of_ble_eq_true rfl) (Nat.le_of_ble_eq_true rfl) ?_
  refine x_if_eq (M := M_X12_is) (tgt := 20) dX12_is_10 (by decide) (fun q => absurd q (by decide +kernel)) (fun _ => ?_)
  refine x_iload_n (M := M_X12_is) dX12_is_13 rfl ?_
  refine x_callSR (M := M_X12_is) (M' := M_X12_isSlot) rfl rfl dX12_is_14 m_X12_isSlot t_2841 t_2842 (q2106 hl c2 c3) rfl rfl (Nat.le_of_ble_eq_true rfl) (Nat.le_of_ble_eq_true rfl) (Nat.le_of_ble_eq_true rfl) (Nat.le_of_ble_eq_true rfl) ?_
  refine x_if_ne (M := M_X12_is) (tgt := 24) dX12_is_17 (by decide) (fun _ => ?_) (fun q => absurd q (by decide +kernel))
  refine x_iconst (M := M_X12_is) dX12_is_24 ?_
  refine x_iconst (M := M_X12_is) dX12_is_25 ?_
  refine y_callVR (M := M_X12_is) (M' := M_X12_fails) rfl rfl dX12_is_26 m_X12_fails t_2805 t_2807 s_157 (q241 hl w2104) rfl rfl w2104 rfl (Nat.le_of_ble_eq_true rfl) (Nat.le_of_ble_eq_true rfl) (Nat.le_of_ble_eq_true rfl) (Nat.le_of_ble_eq_true rfl) (fun h2107 f2108 w2109 => ?_)
  obtain ⟨o2110, -⟩ := w2109
  refine x_if_ne (M := M_X12_is) (tgt := 61) dX12_is_29 (by decide) (fun q => absurd q (by decide +kernel)) (fun _ => ?_)
  refine x_aload_n (M := M_X12_is) dX12_is_32 rfl ?_
  refine x_aload_n (M := M_X12_is) dX12_is_33 rfl ?_
  refine x_iload_n (M := M_X12_is) dX12_is_34 rfl ?_
  have o2115 := (f2108 280 _ (by decide) (f2105 280 _ (by decide) o2114))
  refine x_callVR (M := M_X12_is) (M' := M_X12_has) rfl rfl dX12_is_35 m_X12_has t_3033 t_3035 s_197 (q2113 hl c0 c1 o2110 o2115) rfl rfl o2110 rfl (Nat.le_of_ble_eq_true rfl) (Nat.le_of_ble_eq_true rfl) (Nat.le_of_ble_eq_true rfl) (Nat.le_of_ble_eq_true rfl) ?_
  refine x_if_eq (M := M_X12_is) (tgt := 49) dX12_is_38 (by decide) (fun _ => ?_) (fun q => absurd q (by decide +kernel))
  refine x_iconst (M := M_X12_is) dX12_is_49 ?_
  refine x_goto (M := M_X12_is) (tgt := 54) dX12_is_50 (by decide) ?_
  refine x_iconst (M := M_X12_is) dX12_is_54 ?_
  refine y_callVR (M := M_X12_is) (M' := M_X12_fails) rfl rfl dX12_is_55 m_X12_fails t_2805 t_2807 s_157 (q761 hl o2110) rfl rfl o2110 rfl (Nat.le_of_ble_eq_true rfl) (Nat.le_of_ble_eq_true rfl) (Nat.le_of_ble_eq_true rfl) (Nat.le_of_ble_eq_true rfl) (fun h2116 f2117 w2118 => ?_)
  obtain ⟨o2119, -⟩ := w2118
  refine x_if_eq (M := M_X12_is) (tgt := 63) dX12_is_58 (by decide) (fun q => absurd q (by decide +kernel)) (fun _ => ?_)
  refine x_iconst (M := M_X12_is) dX12_is_61 ?_
  exact x_zret (M := M_X12_is) dX12_is_62 rfl (by decide) ⟨rfl, (fr_tr f2117 (by decide) (fr_tr f2108 (by decide) (fr_tr f2105 (by decide) fr_rf))), ⟨o2119, trivial⟩⟩ (Nat.le_of_ble_eq_true rfl) (Nat.le_of_ble_eq_true rfl)
set_option maxRecDepth 10000 in
theorem lc16_2 {l : Launch} {E : EE} (hl : l.stackTraces = false) (nm : String) {xs : Nat → Int32} (hx : E.2.2.2.2 0 = some (7, xs)) {h : HP} {a0 : Int32} {a1 : Int32} {a2 : Int32} {dg : Int32} (e2 : xs 2 = a0) (e3 : xs 3 = a1) (e4 : xs 4 = a2) (c0 : ¬ (a1.toInt < 0)) (c1 : a1.toInt < 32) (c2 : ¬ (a2.toInt < 0)) (c3 : a2.toInt < 32) (o2096 : ob h 32 = some (.inr (14, [.ref 33, .ref 162, .ref 166, .int (0 : Int32), .int (0 : Int32), .int (0 : Int32), .ref 167, .ref 170, .ref 173, .ref 177, .ref 193, .ref 208, .ref 222, .ref 238, .ref 252, .ref 274, .ref 275, .ref 276, .int (0 : Int32)]))) (o2097 : ob h 33 = some (.inl (4, 32, .inr (.inr (.inr (.inr (shf 1 32))))))) (o2098 : ob h (34 + 4 * a1.toNatClampNeg) = some (.inr (9, [.ref (35 + 4 * a1.toNatClampNeg), .ref (36 + 4 * a1.toNatClampNeg), .ref (37 + 4 * a1.toNatClampNeg), .int (0 : Int32), .int (0 : Int32)]))) (o2121 : ob h 277 = some (.inr (15, (RB dg)))) (o2123 : ob h 280 = some (.inl (0, 33, .inl (fun _ => 0)))) : XX l E (M_law nm) 1312 342628 8074320 (fun o _ => o = .inl (some (.int 1))) 1191 [some (.ref 0), some (.ref 32), some (.ref 277), some (.ref 359), some (.int (Int32.ofInt 1)), none, none, none] [] h 328 2463747 := by
  have n_a1 : a1.toNatClampNeg < 32 := nc_lt (by omega) (by decide)
  refine x_aload_n (M := (M_law nm)) dL_law_1191 rfl ?_
  refine x_aload_n (M := (M_law nm)) dL_law_1192 rfl ?_
  refine x_iload (M := (M_law nm)) dL_law_1193 rfl ?_
  refine x_iconst (M := (M_law nm)) dL_law_1195 ?_
  refine x_iadd (M := (M_law nm)) dL_law_1196 ?_
  refine x_sald (M := (M_law nm)) dL_law_1197 (by decide) hx (vp_inD (by decide +kernel)) ?_
  refine x_top (M := (M_law nm)) (y := a0) ((congrArg xs (by decide +kernel : ((Int32.ofInt 1) + (Int32.ofInt 1)).toNatClampNeg = 2)).trans e2) ?_
  refine x_aload_n (M := (M_law nm)) dL_law_1198 rfl ?_
  refine x_iload (M := (M_law nm)) dL_law_1199 rfl ?_
  refine x_iconst (M := (M_law nm)) dL_law_1201 ?_
  refine x_iadd (M := (M_law nm)) dL_law_1202 ?_
  refine x_sald (M := (M_law nm)) dL_law_1203 (by decide) hx (vp_inD (by decide +kernel)) ?_
  refine x_top (M := (M_law nm)) (y := a1) ((congrArg xs (by decide +kernel : ((Int32.ofInt 1) + (Int32.ofInt 2)).toNatClampNeg = 3)).trans e3) ?_
  refine x_aload_n (M := (M_law nm)) dL_law_1204 rfl ?_
  refine x_iload (M := (M_law nm)) dL_law_1205 rfl ?_
  refine x_iconst (M := (M_law nm)) dL_law_1207 ?_
  refine x_iadd (M := (M_law nm)) dL_law_1208 ?_
  refine x_sald (M := (M_law nm)) dL_law_1209 (by decide) hx (vp_inD (by decide +kernel)) ?_
  refine x_top (M := (M_law nm)) (y := a2) ((congrArg xs (by decide +kernel : ((Int32.ofInt 1) + (Int32.ofInt 3)).toNatClampNeg = 4)).trans e4) ?_
  refine x_aload_n (M := (M_law nm)) dL_law_1210 rfl ?_
  refine y_callSW (M := (M_law nm)) (M' := M_L_is) rfl rfl dL_law_1211 m_L_is t_2035 t_2036 (q2095 hl c0 c1 c2 c3 o2096 o2097 o2098) rfl rfl (Nat.le_of_ble_eq_true rfl) (Nat.le_of_ble_eq_true rfl) (Nat.le_of_ble_eq_true rfl) (Nat.le_of_ble_eq_true rfl) (fun h2099 f2100 w2101 => ?_)
  refine x_istore (M := (M_law nm)) dL_law_1214 (Nat.le_of_ble_eq_true rfl) rfl ?_
  refine x_aload_n (M := (M_law nm)) dL_law_1216 rfl ?_
  refine x_aload_n (M := (M_law nm)) dL_law_1217 rfl ?_
  refine x_iload (M := (M_law nm)) dL_law_1218 rfl ?_
  refine x_iconst (M := (M_law nm)) dL_law_1220 ?_
  refine x_iadd (M := (M_law nm)) dL_law_1221 ?_
  refine x_sald (M := (M_law nm)) dL_law_1222 (by decide) hx (vp_inD (by decide +kernel)) ?_
  refine x_top (M := (M_law nm)) (y := a0) ((congrArg xs (by decide +kernel : ((Int32.ofInt 1) + (Int32.ofInt 1)).toNatClampNeg = 2)).trans e2) ?_
  refine x_aload_n (M := (M_law nm)) dL_law_1223 rfl ?_
  refine x_iload (M := (M_law nm)) dL_law_1224 rfl ?_
  refine x_iconst (M := (M_law nm)) dL_law_1226 ?_
  refine x_iadd (M := (M_law nm)) dL_law_1227 ?_
  refine x_sald (M := (M_law nm)) dL_law_1228 (by decide) hx (vp_inD (by decide +kernel)) ?_
  refine x_top (M := (M_law nm)) (y := a1) ((congrArg xs (by decide +kernel : ((Int32.ofInt 1) + (Int32.ofInt 2)).toNatClampNeg = 3)).trans e3) ?_
  refine x_aload_n (M := (M_law nm)) dL_law_1229 rfl ?_
  refine x_iload (M := (M_law nm)) dL_law_1230 rfl ?_
  refine x_iconst (M := (M_law nm)) dL_law_1232 ?_
  refine x_iadd (M := (M_law nm)) dL_law_1233 ?_
  refine x_sald (M := (M_law nm)) dL_law_1234 (by decide) hx (vp_inD (by decide +kernel)) ?_
  refine x_top (M := (M_law nm)) (y := a2) ((congrArg xs (by decide +kernel : ((Int32.ofInt 1) + (Int32.ofInt 3)).toNatClampNeg = 4)).trans e4) ?_
  have o2122 := (f2100 277 _ (by decide) o2121)
  have o2124 := (f2100 280 _ (by decide) o2123)
  refine y_callVR (M := (M_law nm)) (M' := M_X12_is) rfl rfl dL_law_1235 m_X12_is t_3596 t_3597 t_3598 (q2120 hl c0 c1 c2 c3 o2122 o2124) rfl rfl o2122 rfl (Nat.le_of_ble_eq_true rfl) (Nat.le_of_ble_eq_true rfl) (Nat.le_of_ble_eq_true rfl) (Nat.le_of_ble_eq_true rfl) (fun h2125 f2126 w2127 => ?_)
  obtain ⟨o2128, -⟩ := w2127
  refine x_istore (M := (M_law nm)) dL_law_1238 (Nat.le_of_ble_eq_true rfl) rfl ?_
  refine x_aload_n (M := (M_law nm)) dL_law_1240 rfl ?_
  refine x_callVR (M := (M_law nm)) (M' := M_X12_thrown) rfl rfl dL_law_1241 m_X12_thrown t_2797 t_2798 t_2799 (q774 hl o2128) rfl rfl o2128 rfl (Nat.le_of_ble_eq_true rfl) (Nat.le_of_ble_eq_true rfl) (Nat.le_of_ble_eq_true rfl) (Nat.le_of_ble_eq_true rfl) ?_
  refine x_iload (M := (M_law nm)) dL_law_1244 rfl ?_
  refine x_icmp_eq (M := (M_law nm)) (tgt := 1251) dL_law_1246 (by decide) (fun _ => ?_) (fun q => absurd q (by decide +kernel))
  refine x_iload (M := (M_law nm)) dL_law_1251 rfl ?_
  refine x_if_ne (M := (M_law nm)) (tgt := 1275) dL_law_1253 (by decide) (fun _ => ?_) (fun q => absurd q (by decide +kernel))
  refine x_goto (M := (M_law nm)) (tgt := 2449) dL_law_1275 (by decide) ?_
  refine x_iinc (M := (M_law nm)) dL_law_2449 rfl (Nat.le_of_ble_eq_true rfl) rfl ?_
  refine x_lvs (M := (M_law nm)) (lv' := [some (.ref 0), some (.ref 32), some (.ref 277), some (.ref 359), some (.int (Int32.ofInt 7)), some (.int (Int32.ofInt 2)), some (.int (Int32.ofInt 0)), none]) (by rw [(by decide +kernel : (Int32.ofInt 1) + Int32.ofInt 6 = (Int32.ofInt 7))] <;> rfl) ?_
  refine x_goto (M := (M_law nm)) (tgt := 33) dL_law_2452 (by decide) ?_
  refine x_iload (M := (M_law nm)) dL_law_33 rfl ?_
  refine x_aload_n (M := (M_law nm)) dL_law_35 rfl ?_
  refine x_slen (M := (M_law nm)) dL_law_36 (by decide) hx ?_
  refine x_bipush (M := (M_law nm)) dL_law_37 ?_
  refine x_isub (M := (M_law nm)) dL_law_39 ?_
  refine x_icmp_gt (M := (M_law nm)) (tgt := 2455) dL_law_40 (by decide) (fun _ => ?_) (fun q => absurd q (by decide +kernel))
  refine x_iconst (M := (M_law nm)) dL_law_2455 ?_
  exact x_zret (M := (M_law nm)) dL_law_2456 rfl (by decide) rfl (Nat.le_of_ble_eq_true rfl) (Nat.le_of_ble_eq_true rfl)
set_option maxRecDepth 10000 in
theorem q2132 {l : Launch} {E : EE} (hl : l.stackTraces = false) {h : HP} {a2 : Int32} (c0 : ¬ (a2.toInt < 0)) (c1 : ¬ (a2.toInt < 32)) : en_C l E M_X11_slotNumbered 6 1 6 [.ref 32, .int a2] h (pT "java/lang/IndexOutOfBoundsException" [] h (fun _ => True)) := by
  refine en_mk m_X11_slotNumbered rfl hl (Nat.le_of_ble_eq_true rfl) ?_
  refine x_iload_n (M := M_X11_slotNumbered) dX11_slotNumbered_0 rfl ?_
  refine x_if_lt (M := M_X11_slotNumbered) (tgt := 10) dX11_slotNumbered_1 (by decide) (fun q => absurd ((bi_lt rfl (by decide +kernel)).mp q) (by omega : ¬ (a2.toInt < 0))) (fun _ => ?_)
  refine x_iload_n (M := M_X11_slotNumbered) dX11_slotNumbered_4 rfl ?_
  refine x_bipush (M := M_X11_slotNumbered) dX11_slotNumbered_5 ?_
  refine x_icmp_lt (M := M_X11_slotNumbered) (tgt := 18) dX11_slotNumbered_7 (by decide) (fun q => absurd ((bi_lt rfl (by decide +kernel)).mp q) (by omega : ¬ (a2.toInt < 32))) (fun _ => ?_)
  exact x_throw (M := M_X11_slotNumbered) (names := en_nm) rfl dX11_slotNumbered_10 dX11_slotNumbered_13 dX11_slotNumbered_14 dX11_slotNumbered_17 (by decide +kernel) en_nm_ok (Or.inl t_748) (Or.inl t_22) (at_X11_IndexOutOfBoundsException_139) (Nat.le_of_ble_eq_true rfl) (Nat.le_of_ble_eq_true rfl) (Nat.le_of_ble_eq_true rfl) (Nat.le_of_ble_eq_true rfl) (fun n9 => ⟨rfl, (fr_tr (fr_app (List.replicate n9 none)) (fun _ h => nomatch h) fr_rf), trivial⟩)
set_option maxRecDepth 10000 in
theorem q2136 {l : Launch} {E : EE} (hl : l.stackTraces = false) {h : HP} {a0 : Int32} {a1 : Int32} {a2 : Int32} (c0 : ¬ (a1.toInt < 0)) (c1 : a1.toInt < 32) (c2 : ¬ (a2.toInt < 0)) (c3 : ¬ (a2.toInt < 32)) (o2129 : ob h 32 = some (.inr (14, [.ref 33, .ref 162, .ref 166, .int (0 : Int32), .int (0 : Int32), .int (0 : Int32), .ref 167, .ref 170, .ref 173, .ref 177, .ref 193, .ref 208, .ref 222, .ref 238, .ref 252, .ref 274, .ref 275, .ref 276, .int (0 : Int32)]))) (o2130 : ob h 33 = some (.inl (4, 32, .inr (.inr (.inr (.inr (shf 1 32))))))) : en_C l E M_X11_mustBeRelatable 7 1 6 [.ref 32, .int a0, .int a1, .int a2] h (pT "java/lang/IndexOutOfBoundsException" [] h (fun _ => True)) := by
  refine en_mk m_X11_mustBeRelatable rfl hl (Nat.le_of_ble_eq_true rfl) ?_
  refine x_aload_n (M := M_X11_mustBeRelatable) dX11_mustBeRelatable_0 rfl ?_
  refine x_iload_n (M := M_X11_mustBeRelatable) dX11_mustBeRelatable_1 rfl ?_
  refine x_callVR (M := M_X11_mustBeRelatable) (M' := M_X11_slotNumbered) rfl rfl dX11_mustBeRelatable_2 m_X11_slotNumbered t_744 t_746 s_2 (q1503 hl c0 c1 o2129 o2130) rfl rfl o2129 rfl (Nat.le_of_ble_eq_true rfl) (Nat.le_of_ble_eq_true rfl) (Nat.le_of_ble_eq_true rfl) (Nat.le_of_ble_eq_true rfl) ?_
  refine x_astore (M := M_X11_mustBeRelatable) dX11_mustBeRelatable_5 (Nat.le_of_ble_eq_true rfl) rfl ?_
  refine x_aload_n (M := M_X11_mustBeRelatable) dX11_mustBeRelatable_7 rfl ?_
  refine x_iload_n (M := M_X11_mustBeRelatable) dX11_mustBeRelatable_8 rfl ?_
  exact y_callVX (M := M_X11_mustBeRelatable) (M' := M_X11_slotNumbered) rfl rfl dX11_mustBeRelatable_9 m_X11_slotNumbered t_744 t_746 s_2 (q2132 hl c2 c3) rfl rfl o2129 rfl (Nat.le_of_ble_eq_true rfl) (Nat.le_of_ble_eq_true rfl) (Nat.le_of_ble_eq_true rfl) (Nat.le_of_ble_eq_true rfl) (fun h2133 f2134 w2135 => ⟨rfl, (fr_tr f2134 (fun _ h => nomatch h) fr_rf), trivial⟩)
set_option maxRecDepth 10000 in
theorem q2142 {l : Launch} {E : EE} (hl : l.stackTraces = false) {h : HP} {a0 : Int32} {a1 : Int32} {a2 : Int32} (c0 : ¬ (a1.toInt < 0)) (c1 : a1.toInt < 32) (c2 : ¬ (a2.toInt < 0)) (c3 : ¬ (a2.toInt < 32)) (o2137 : ob h 32 = some (.inr (14, [.ref 33, .ref 162, .ref 166, .int (0 : Int32), .int (0 : Int32), .int (0 : Int32), .ref 167, .ref 170, .ref 173, .ref 177, .ref 193, .ref 208, .ref 222, .ref 238, .ref 252, .ref 274, .ref 275, .ref 276, .int (0 : Int32)]))) (o2138 : ob h 33 = some (.inl (4, 32, .inr (.inr (.inr (.inr (shf 1 32))))))) : en_C l E M_X11_is 8 1 6 [.ref 32, .int a0, .int a1, .int a2] h (pT "java/lang/IndexOutOfBoundsException" [] h (fun _ => True)) := by
  refine en_mk m_X11_is rfl hl (Nat.le_of_ble_eq_true rfl) ?_
  refine x_aload_n (M := M_X11_is) dX11_is_0 rfl ?_
  refine x_iload_n (M := M_X11_is) dX11_is_1 rfl ?_
  refine x_iload_n (M := M_X11_is) dX11_is_2 rfl ?_
  refine x_iload_n (M := M_X11_is) dX11_is_3 rfl ?_
  exact y_callVX (M := M_X11_is) (M' := M_X11_mustBeRelatable) rfl rfl dX11_is_4 m_X11_mustBeRelatable t_1879 t_1881 s_104 (q2136 hl c0 c1 c2 c3 o2137 o2138) rfl rfl o2137 rfl (Nat.le_of_ble_eq_true rfl) (Nat.le_of_ble_eq_true rfl) (Nat.le_of_ble_eq_true rfl) (Nat.le_of_ble_eq_true rfl) (fun h2139 f2140 w2141 => ⟨rfl, (fr_tr f2140 (fun _ h => nomatch h) fr_rf), trivial⟩)
set_option maxRecDepth 10000 in
theorem q2148 {l : Launch} {E : EE} (hl : l.stackTraces = false) {h : HP} {a0 : Int32} {a1 : Int32} {a2 : Int32} (c0 : ¬ (a1.toInt < 0)) (c1 : a1.toInt < 32) (c2 : ¬ (a2.toInt < 0)) (c3 : ¬ (a2.toInt < 32)) (o2143 : ob h 32 = some (.inr (14, [.ref 33, .ref 162, .ref 166, .int (0 : Int32), .int (0 : Int32), .int (0 : Int32), .ref 167, .ref 170, .ref 173, .ref 177, .ref 193, .ref 208, .ref 222, .ref 238, .ref 252, .ref 274, .ref 275, .ref 276, .int (0 : Int32)]))) (o2144 : ob h 33 = some (.inl (4, 32, .inr (.inr (.inr (.inr (shf 1 32))))))) : en_C l E M_L_is 9 1 6 [.ref 32, .int a0, .int a1, .int a2, .ref 359] h (pF (some (.int (Int32.ofInt 1))) [] h (fun _ => True)) := by
  refine en_mkW m_L_is rfl hl (Nat.le_of_ble_eq_true rfl) ?_
  refine x_aload (M := M_L_is) dL_is_0 rfl ?_
  refine x_iconst (M := M_L_is) dL_is_2 ?_
  refine x_aload_n (M := M_L_is) dL_is_3 rfl ?_
  refine x_iload_n (M := M_L_is) dL_is_4 rfl ?_
  refine x_iload_n (M := M_L_is) dL_is_5 rfl ?_
  refine x_iload_n (M := M_L_is) dL_is_6 rfl ?_
  refine y_callVHX (M := M_L_is) (M' := M_X11_is) (i9 := 5) (nx := 24) rfl dL_is_7 m_X11_is t_2038 t_2039 t_2040 o2143 rfl (q2142 hl c0 c1 c2 c3 o2143 o2144) rfl rfl (Nat.le_of_ble_eq_true rfl) (Nat.le_of_ble_eq_true rfl) (Nat.le_of_ble_eq_true rfl) (Nat.le_of_ble_eq_true rfl) (en_hdm (k0 := 5) [] [(0, 19, 26, 13), (0, 19, 30, 19), (0, 19, 34, 63)] rfl (fun _ h => nomatch h) (by decide +kernel) (by decide) t_739 n_750 dL_is_22) (by decide) rfl (fun h2145 f2146 w2147 => ?_)
  refine x_iconst (M := M_L_is) dL_is_24 ?_
  exact x_iret (M := M_L_is) dL_is_25 rfl ⟨rfl, (fr_tr f2146 (fun _ h => nomatch h) fr_rf), trivial⟩ (Nat.le_of_ble_eq_true rfl) (Nat.le_of_ble_eq_true rfl)
set_option maxRecDepth 10000 in
theorem q2158 {l : Launch} {E : EE} (hl : l.stackTraces = false) {h : HP} {a2 : Int32} (c0 : ¬ (a2.toInt < 0)) (c1 : ¬ (a2.toInt < 32)) : en_C l E M_X12_isSlot 0 0 0 [.int a2] h (pR (some (.int (Int32.ofInt 0))) h) := by
  refine en_mk m_X12_isSlot rfl hl (Nat.le_of_ble_eq_true rfl) ?_
  refine x_iload_n (M := M_X12_isSlot) dX12_isSlot_0 rfl ?_
  refine x_if_lt (M := M_X12_isSlot) (tgt := 14) dX12_isSlot_1 (by decide) (fun q => absurd ((bi_lt rfl (by decide +kernel)).mp q) (by omega : ¬ (a2.toInt < 0))) (fun _ => ?_)
  refine x_iload_n (M := M_X12_isSlot) dX12_isSlot_4 rfl ?_
  refine x_bipush (M := M_X12_isSlot) dX12_isSlot_5 ?_
  refine x_icmp_ge (M := M_X12_isSlot) (tgt := 14) dX12_isSlot_7 (by decide) (fun _ => ?_) (fun q => absurd ((bi_le (by decide +kernel) rfl).mpr (by omega : (32 ≤ a2.toInt : Prop))) q)
  refine x_iconst (M := M_X12_isSlot) dX12_isSlot_14 ?_
  exact x_zret (M := M_X12_isSlot) dX12_isSlot_15 rfl (by decide) ⟨rfl, rfl⟩ (Nat.le_of_ble_eq_true rfl) (Nat.le_of_ble_eq_true rfl)
set_option maxRecDepth 10000 in
theorem q2163 {l : Launch} {E : EE} (hl : l.stackTraces = false) {h : HP} {a0 : Int32} {a1 : Int32} {a2 : Int32} {dg : Int32} (c0 : ¬ (a1.toInt < 0)) (c1 : a1.toInt < 32) (c2 : ¬ (a2.toInt < 0)) (c3 : ¬ (a2.toInt < 32)) (o2154 : ob h 277 = some (.inr (15, (RB dg)))) : en_C l E M_X12_is 1 0 0 [.ref 277, .int a0, .int a1, .int a2] h (pF (some (.int (Int32.ofInt 0))) [277] h (fun h' => ob h' 277 = some (.inr (15, ((RB dg).set 0 (.int (Int32.ofInt 1))))) ∧ True)) := by
  refine en_mk m_X12_is rfl hl (Nat.le_of_ble_eq_true rfl) ?_
  refine x_aload_n (M := M_X12_is) dX12_is_0 rfl ?_
  refine x_iconst (M := M_X12_is) dX12_is_1 ?_
  refine y_put (M := M_X12_is) (ci := 15) (C := RX12) (T := TX12) (N := 135) (ty := tyX12) cl15 dX12_is_2 o2154 0 (by decide) t_2391 (Or.inl rfl) (Nat.le_of_ble_eq_true rfl) rfl (fun h2155 w2156 f2157 => ?_)
  refine x_aload_n (M := M_X12_is) dX12_is_5 rfl ?_
  refine x_iload_n (M := M_X12_is) dX12_is_6 rfl ?_
  refine x_callSR (M := M_X12_is) (M' := M_X12_isSlot) rfl rfl dX12_is_7 m_X12_isSlot t_2841 t_2842 (q1536 hl c0 c1) rfl rfl (Nat.le_of_ble_eq_true rfl) (Nat.le_of_ble_eq_true rfl) (Nat.le_of_ble_eq_true rfl) (Nat.le_of_ble_eq_true rfl) ?_
  refine x_if_eq (M := M_X12_is) (tgt := 20) dX12_is_10 (by decide) (fun q => absurd q (by decide +kernel)) (fun _ => ?_)
  refine x_iload_n (M := M_X12_is) dX12_is_13 rfl ?_
  refine x_callSR (M := M_X12_is) (M' := M_X12_isSlot) rfl rfl dX12_is_14 m_X12_isSlot t_2841 t_2842 (q2158 hl c2 c3) rfl rfl (Nat.le_of_ble_eq_true rfl) (Nat.le_of_ble_eq_true rfl) (Nat.le_of_ble_eq_true rfl) (Nat.le_of_ble_eq_true rfl) ?_
  refine x_if_ne (M := M_X12_is) (tgt := 24) dX12_is_17 (by decide) (fun q => absurd q (by decide +kernel)) (fun _ => ?_)
  refine x_iconst (M := M_X12_is) dX12_is_20 ?_
  refine x_goto (M := M_X12_is) (tgt := 25) dX12_is_21 (by decide) ?_
  refine x_iconst (M := M_X12_is) dX12_is_25 ?_
  refine y_callVR (M := M_X12_is) (M' := M_X12_fails) rfl rfl dX12_is_26 m_X12_fails t_2805 t_2807 s_157 (q22 hl w2156) rfl rfl w2156 rfl (Nat.le_of_ble_eq_true rfl) (Nat.le_of_ble_eq_true rfl) (Nat.le_of_ble_eq_true rfl) (Nat.le_of_ble_eq_true rfl) (fun h2159 f2160 w2161 => ?_)
  obtain ⟨o2162, -⟩ := w2161
  refine x_if_ne (M := M_X12_is) (tgt := 61) dX12_is_29 (by decide) (fun _ => ?_) (fun q => absurd q (by decide +kernel))
  refine x_iconst (M := M_X12_is) dX12_is_61 ?_
  exact x_zret (M := M_X12_is) dX12_is_62 rfl (by decide) ⟨rfl, (fr_tr f2160 (by decide) (fr_tr f2157 (by decide) fr_rf)), ⟨o2162, trivial⟩⟩ (Nat.le_of_ble_eq_true rfl) (Nat.le_of_ble_eq_true rfl)
set_option maxRecDepth 10000 in
theorem lc16_3 {l : Launch} {E : EE} (hl : l.stackTraces = false) (nm : String) {xs : Nat → Int32} (hx : E.2.2.2.2 0 = some (7, xs)) {h : HP} {a0 : Int32} {a1 : Int32} {a2 : Int32} {dg : Int32} (e2 : xs 2 = a0) (e3 : xs 3 = a1) (e4 : xs 4 = a2) (c0 : ¬ (a1.toInt < 0)) (c1 : a1.toInt < 32) (c2 : ¬ (a2.toInt < 0)) (c3 : ¬ (a2.toInt < 32)) (o2149 : ob h 32 = some (.inr (14, [.ref 33, .ref 162, .ref 166, .int (0 : Int32), .int (0 : Int32), .int (0 : Int32), .ref 167, .ref 170, .ref 173, .ref 177, .ref 193, .ref 208, .ref 222, .ref 238, .ref 252, .ref 274, .ref 275, .ref 276, .int (0 : Int32)]))) (o2150 : ob h 33 = some (.inl (4, 32, .inr (.inr (.inr (.inr (shf 1 32))))))) (o2164 : ob h 277 = some (.inr (15, (RB dg)))) : XX l E (M_law nm) 1312 342628 8074320 (fun o _ => o = .inl (some (.int 1))) 1191 [some (.ref 0), some (.ref 32), some (.ref 277), some (.ref 359), some (.int (Int32.ofInt 1)), none, none, none] [] h 328 2463747 := by
  refine x_aload_n (M := (M_law nm)) dL_law_1191 rfl ?_
  refine x_aload_n (M := (M_law nm)) dL_law_1192 rfl ?_
  refine x_iload (M := (M_law nm)) dL_law_1193 rfl ?_
  refine x_iconst (M := (M_law nm)) dL_law_1195 ?_
  refine x_iadd (M := (M_law nm)) dL_law_1196 ?_
  refine x_sald (M := (M_law nm)) dL_law_1197 (by decide) hx (vp_inD (by decide +kernel)) ?_
  refine x_top (M := (M_law nm)) (y := a0) ((congrArg xs (by decide +kernel : ((Int32.ofInt 1) + (Int32.ofInt 1)).toNatClampNeg = 2)).trans e2) ?_
  refine x_aload_n (M := (M_law nm)) dL_law_1198 rfl ?_
  refine x_iload (M := (M_law nm)) dL_law_1199 rfl ?_
  refine x_iconst (M := (M_law nm)) dL_law_1201 ?_
  refine x_iadd (M := (M_law nm)) dL_law_1202 ?_
  refine x_sald (M := (M_law nm)) dL_law_1203 (by decide) hx (vp_inD (by decide +kernel)) ?_
  refine x_top (M := (M_law nm)) (y := a1) ((congrArg xs (by decide +kernel : ((Int32.ofInt 1) + (Int32.ofInt 2)).toNatClampNeg = 3)).trans e3) ?_
  refine x_aload_n (M := (M_law nm)) dL_law_1204 rfl ?_
  refine x_iload (M := (M_law nm)) dL_law_1205 rfl ?_
  refine x_iconst (M := (M_law nm)) dL_law_1207 ?_
  refine x_iadd (M := (M_law nm)) dL_law_1208 ?_
  refine x_sald (M := (M_law nm)) dL_law_1209 (by decide) hx (vp_inD (by decide +kernel)) ?_
  refine x_top (M := (M_law nm)) (y := a2) ((congrArg xs (by decide +kernel : ((Int32.ofInt 1) + (Int32.ofInt 3)).toNatClampNeg = 4)).trans e4) ?_
  refine x_aload_n (M := (M_law nm)) dL_law_1210 rfl ?_
  refine y_callSW (M := (M_law nm)) (M' := M_L_is) rfl rfl dL_law_1211 m_L_is t_2035 t_2036 (q2148 hl c0 c1 c2 c3 o2149 o2150) rfl rfl (Nat.le_of_ble_eq_true rfl) (Nat.le_of_ble_eq_true rfl) (Nat.le_of_ble_eq_true rfl) (Nat.le_of_ble_eq_true rfl) (fun h2151 f2152 w2153 => ?_)
  refine x_istore (M := (M_law nm)) dL_law_1214 (Nat.le_of_ble_eq_true rfl) rfl ?_
  refine x_aload_n (M := (M_law nm)) dL_law_1216 rfl ?_
  refine x_aload_n (M := (M_law nm)) dL_law_1217 rfl ?_
  refine x_iload (M := (M_law nm)) dL_law_1218 rfl ?_
  refine x_iconst (M := (M_law nm)) dL_law_1220 ?_
  refine x_iadd (M := (M_law nm)) dL_law_1221 ?_
  refine x_sald (M := (M_law nm)) dL_law_1222 (by decide) hx (vp_inD (by decide +kernel)) ?_
  refine x_top (M := (M_law nm)) (y := a0) ((congrArg xs (by decide +kernel : ((Int32.ofInt 1) + (Int32.ofInt 1)).toNatClampNeg = 2)).trans e2) ?_
  refine x_aload_n (M := (M_law nm)) dL_law_1223 rfl ?_
  refine x_iload (M := (M_law nm)) dL_law_1224 rfl ?_
  refine x_iconst (M := (M_law nm)) dL_law_1226 ?_
  refine x_iadd (M := (M_law nm)) dL_law_1227 ?_
  refine x_sald (M := (M_law nm)) dL_law_1228 (by decide) hx (vp_inD (by decide +kernel)) ?_
  refine x_top (M := (M_law nm)) (y := a1) ((congrArg xs (by decide +kernel : ((Int32.ofInt 1) + (Int32.ofInt 2)).toNatClampNeg = 3)).trans e3) ?_
  refine x_aload_n (M := (M_law nm)) dL_law_1229 rfl ?_
  refine x_iload (M := (M_law nm)) dL_law_1230 rfl ?_
  refine x_iconst (M := (M_law nm)) dL_law_1232 ?_
  refine x_iadd (M := (M_law nm)) dL_law_1233 ?_
  refine x_sald (M := (M_law nm)) dL_law_1234 (by decide) hx (vp_inD (by decide +kernel)) ?_
  refine x_top (M := (M_law nm)) (y := a2) ((congrArg xs (by decide +kernel : ((Int32.ofInt 1) + (Int32.ofInt 3)).toNatClampNeg = 4)).trans e4) ?_
  have o2165 := (f2152 277 _ (by decide) o2164)
  refine y_callVR (M := (M_law nm)) (M' := M_X12_is) rfl rfl dL_law_1235 m_X12_is t_3596 t_3597 t_3598 (q2163 hl c0 c1 c2 c3 o2165) rfl rfl o2165 rfl (Nat.le_of_ble_eq_true rfl) (Nat.le_of_ble_eq_true rfl) (Nat.le_of_ble_eq_true rfl) (Nat.le_of_ble_eq_true rfl) (fun h2166 f2167 w2168 => ?_)
  obtain ⟨o2169, -⟩ := w2168
  refine x_istore (M := (M_law nm)) dL_law_1238 (Nat.le_of_ble_eq_true rfl) rfl ?_
  refine x_aload_n (M := (M_law nm)) dL_law_1240 rfl ?_
  refine x_callVR (M := (M_law nm)) (M' := M_X12_thrown) rfl rfl dL_law_1241 m_X12_thrown t_2797 t_2798 t_2799 (q35 hl o2169) rfl rfl o2169 rfl (Nat.le_of_ble_eq_true rfl) (Nat.le_of_ble_eq_true rfl) (Nat.le_of_ble_eq_true rfl) (Nat.le_of_ble_eq_true rfl) ?_
  refine x_iload (M := (M_law nm)) dL_law_1244 rfl ?_
  refine x_icmp_eq (M := (M_law nm)) (tgt := 1251) dL_law_1246 (by decide) (fun _ => ?_) (fun q => absurd q (by decide +kernel))
  refine x_iload (M := (M_law nm)) dL_law_1251 rfl ?_
  refine x_if_ne (M := (M_law nm)) (tgt := 1275) dL_law_1253 (by decide) (fun _ => ?_) (fun q => absurd q (by decide +kernel))
  refine x_goto (M := (M_law nm)) (tgt := 2449) dL_law_1275 (by decide) ?_
  refine x_iinc (M := (M_law nm)) dL_law_2449 rfl (Nat.le_of_ble_eq_true rfl) rfl ?_
  refine x_lvs (M := (M_law nm)) (lv' := [some (.ref 0), some (.ref 32), some (.ref 277), some (.ref 359), some (.int (Int32.ofInt 7)), some (.int (Int32.ofInt 1)), some (.int (Int32.ofInt 0)), none]) (by rw [(by decide +kernel : (Int32.ofInt 1) + Int32.ofInt 6 = (Int32.ofInt 7))] <;> rfl) ?_
  refine x_goto (M := (M_law nm)) (tgt := 33) dL_law_2452 (by decide) ?_
  refine x_iload (M := (M_law nm)) dL_law_33 rfl ?_
  refine x_aload_n (M := (M_law nm)) dL_law_35 rfl ?_
  refine x_slen (M := (M_law nm)) dL_law_36 (by decide) hx ?_
  refine x_bipush (M := (M_law nm)) dL_law_37 ?_
  refine x_isub (M := (M_law nm)) dL_law_39 ?_
  refine x_icmp_gt (M := (M_law nm)) (tgt := 2455) dL_law_40 (by decide) (fun _ => ?_) (fun q => absurd q (by decide +kernel))
  refine x_iconst (M := (M_law nm)) dL_law_2455 ?_
  exact x_zret (M := (M_law nm)) dL_law_2456 rfl (by decide) rfl (Nat.le_of_ble_eq_true rfl) (Nat.le_of_ble_eq_true rfl)
set_option maxRecDepth 10000 in
theorem q2174 {l : Launch} {E : EE} (hl : l.stackTraces = false) {h : HP} {a0 : Int32} {a1 : Int32} {a2 : Int32} (c0 : ¬ (a1.toInt < 0)) (c1 : ¬ (a1.toInt < 32)) (o2170 : ob h 32 = some (.inr (14, [.ref 33, .ref 162, .ref 166, .int (0 : Int32), .int (0 : Int32), .int (0 : Int32), .ref 167, .ref 170, .ref 173, .ref 177, .ref 193, .ref 208, .ref 222, .ref 238, .ref 252, .ref 274, .ref 275, .ref 276, .int (0 : Int32)]))) : en_C l E M_X11_mustBeRelatable 7 1 6 [.ref 32, .int a0, .int a1, .int a2] h (pT "java/lang/IndexOutOfBoundsException" [] h (fun _ => True)) := by
  refine en_mk m_X11_mustBeRelatable rfl hl (Nat.le_of_ble_eq_true rfl) ?_
  refine x_aload_n (M := M_X11_mustBeRelatable) dX11_mustBeRelatable_0 rfl ?_
  refine x_iload_n (M := M_X11_mustBeRelatable) dX11_mustBeRelatable_1 rfl ?_
  exact y_callVX (M := M_X11_mustBeRelatable) (M' := M_X11_slotNumbered) rfl rfl dX11_mustBeRelatable_2 m_X11_slotNumbered t_744 t_746 s_2 (q1560 hl c0 c1) rfl rfl o2170 rfl (Nat.le_of_ble_eq_true rfl) (Nat.le_of_ble_eq_true rfl) (Nat.le_of_ble_eq_true rfl) (Nat.le_of_ble_eq_true rfl) (fun h2171 f2172 w2173 => ⟨rfl, (fr_tr f2172 (fun _ h => nomatch h) fr_rf), trivial⟩)
set_option maxRecDepth 10000 in
theorem q2179 {l : Launch} {E : EE} (hl : l.stackTraces = false) {h : HP} {a0 : Int32} {a1 : Int32} {a2 : Int32} (c0 : ¬ (a1.toInt < 0)) (c1 : ¬ (a1.toInt < 32)) (o2175 : ob h 32 = some (.inr (14, [.ref 33, .ref 162, .ref 166, .int (0 : Int32), .int (0 : Int32), .int (0 : Int32), .ref 167, .ref 170, .ref 173, .ref 177, .ref 193, .ref 208, .ref 222, .ref 238, .ref 252, .ref 274, .ref 275, .ref 276, .int (0 : Int32)]))) : en_C l E M_X11_is 8 1 6 [.ref 32, .int a0, .int a1, .int a2] h (pT "java/lang/IndexOutOfBoundsException" [] h (fun _ => True)) := by
  refine en_mk m_X11_is rfl hl (Nat.le_of_ble_eq_true rfl) ?_
  refine x_aload_n (M := M_X11_is) dX11_is_0 rfl ?_
  refine x_iload_n (M := M_X11_is) dX11_is_1 rfl ?_
  refine x_iload_n (M := M_X11_is) dX11_is_2 rfl ?_
  refine x_iload_n (M := M_X11_is) dX11_is_3 rfl ?_
  exact y_callVX (M := M_X11_is) (M' := M_X11_mustBeRelatable) rfl rfl dX11_is_4 m_X11_mustBeRelatable t_1879 t_1881 s_104 (q2174 hl c0 c1 o2175) rfl rfl o2175 rfl (Nat.le_of_ble_eq_true rfl) (Nat.le_of_ble_eq_true rfl) (Nat.le_of_ble_eq_true rfl) (Nat.le_of_ble_eq_true rfl) (fun h2176 f2177 w2178 => ⟨rfl, (fr_tr f2177 (fun _ h => nomatch h) fr_rf), trivial⟩)
set_option maxRecDepth 10000 in
theorem q2184 {l : Launch} {E : EE} (hl : l.stackTraces = false) {h : HP} {a0 : Int32} {a1 : Int32} {a2 : Int32} (c0 : ¬ (a1.toInt < 0)) (c1 : ¬ (a1.toInt < 32)) (o2180 : ob h 32 = some (.inr (14, [.ref 33, .ref 162, .ref 166, .int (0 : Int32), .int (0 : Int32), .int (0 : Int32), .ref 167, .ref 170, .ref 173, .ref 177, .ref 193, .ref 208, .ref 222, .ref 238, .ref 252, .ref 274, .ref 275, .ref 276, .int (0 : Int32)]))) : en_C l E M_L_is 9 1 6 [.ref 32, .int a0, .int a1, .int a2, .ref 359] h (pF (some (.int (Int32.ofInt 1))) [] h (fun _ => True)) := by
  refine en_mkW m_L_is rfl hl (Nat.le_of_ble_eq_true rfl) ?_
  refine x_aload (M := M_L_is) dL_is_0 rfl ?_
  refine x_iconst (M := M_L_is) dL_is_2 ?_
  refine x_aload_n (M := M_L_is) dL_is_3 rfl ?_
  refine x_iload_n (M := M_L_is) dL_is_4 rfl ?_
  refine x_iload_n (M := M_L_is) dL_is_5 rfl ?_
  refine x_iload_n (M := M_L_is) dL_is_6 rfl ?_
  refine y_callVHX (M := M_L_is) (M' := M_X11_is) (i9 := 5) (nx := 24) rfl dL_is_7 m_X11_is t_2038 t_2039 t_2040 o2180 rfl (q2179 hl c0 c1 o2180) rfl rfl (Nat.le_of_ble_eq_true rfl) (Nat.le_of_ble_eq_true rfl) (Nat.le_of_ble_eq_true rfl) (Nat.le_of_ble_eq_true rfl) (en_hdm (k0 := 5) [] [(0, 19, 26, 13), (0, 19, 30, 19), (0, 19, 34, 63)] rfl (fun _ h => nomatch h) (by decide +kernel) (by decide) t_739 n_750 dL_is_22) (by decide) rfl (fun h2181 f2182 w2183 => ?_)
  refine x_iconst (M := M_L_is) dL_is_24 ?_
  exact x_iret (M := M_L_is) dL_is_25 rfl ⟨rfl, (fr_tr f2182 (fun _ h => nomatch h) fr_rf), trivial⟩ (Nat.le_of_ble_eq_true rfl) (Nat.le_of_ble_eq_true rfl)
set_option maxRecDepth 10000 in
theorem q2197 {l : Launch} {E : EE} (hl : l.stackTraces = false) {h : HP} {a0 : Int32} {a1 : Int32} {a2 : Int32} {dg : Int32} (c0 : ¬ (a1.toInt < 0)) (c1 : ¬ (a1.toInt < 32)) (o2189 : ob h 277 = some (.inr (15, (RB dg)))) : en_C l E M_X12_is 1 0 0 [.ref 277, .int a0, .int a1, .int a2] h (pF (some (.int (Int32.ofInt 0))) [277] h (fun h' => ob h' 277 = some (.inr (15, ((RB dg).set 0 (.int (Int32.ofInt 1))))) ∧ True)) := by
  refine en_mk m_X12_is rfl hl (Nat.le_of_ble_eq_true rfl) ?_
  refine x_aload_n (M := M_X12_is) dX12_is_0 rfl ?_
  refine x_iconst (M := M_X12_is) dX12_is_1 ?_
  refine y_put (M := M_X12_is) (ci := 15) (C := RX12) (T := TX12) (N := 135) (ty := tyX12) cl15 dX12_is_2 o2189 0 (by decide) t_2391 (Or.inl rfl) (Nat.le_of_ble_eq_true rfl) rfl (fun h2190 w2191 f2192 => ?_)
  refine x_aload_n (M := M_X12_is) dX12_is_5 rfl ?_
  refine x_iload_n (M := M_X12_is) dX12_is_6 rfl ?_
  refine x_callSR (M := M_X12_is) (M' := M_X12_isSlot) rfl rfl dX12_is_7 m_X12_isSlot t_2841 t_2842 (q1580 hl c0 c1) rfl rfl (Nat.le_of_ble_eq_true rfl) (Nat.le_of_ble_eq_true rfl) (Nat.le_of_ble_eq_true rfl) (Nat.le_of_ble_eq_true rfl) ?_
  refine x_if_eq (M := M_X12_is) (tgt := 20) dX12_is_10 (by decide) (fun _ => ?_) (fun q => absurd q (by decide +kernel))
  refine x_iconst (M := M_X12_is) dX12_is_20 ?_
  refine x_goto (M := M_X12_is) (tgt := 25) dX12_is_21 (by decide) ?_
  refine x_iconst (M := M_X12_is) dX12_is_25 ?_
  refine y_callVR (M := M_X12_is) (M' := M_X12_fails) rfl rfl dX12_is_26 m_X12_fails t_2805 t_2807 s_157 (q22 hl w2191) rfl rfl w2191 rfl (Nat.le_of_ble_eq_true rfl) (Nat.le_of_ble_eq_true rfl) (Nat.le_of_ble_eq_true rfl) (Nat.le_of_ble_eq_true rfl) (fun h2193 f2194 w2195 => ?_)
  obtain ⟨o2196, -⟩ := w2195
  refine x_if_ne (M := M_X12_is) (tgt := 61) dX12_is_29 (by decide) (fun _ => ?_) (fun q => absurd q (by decide +kernel))
  refine x_iconst (M := M_X12_is) dX12_is_61 ?_
  exact x_zret (M := M_X12_is) dX12_is_62 rfl (by decide) ⟨rfl, (fr_tr f2194 (by decide) (fr_tr f2192 (by decide) fr_rf)), ⟨o2196, trivial⟩⟩ (Nat.le_of_ble_eq_true rfl) (Nat.le_of_ble_eq_true rfl)
set_option maxRecDepth 10000 in
theorem lc16_4 {l : Launch} {E : EE} (hl : l.stackTraces = false) (nm : String) {xs : Nat → Int32} (hx : E.2.2.2.2 0 = some (7, xs)) {h : HP} {a0 : Int32} {a1 : Int32} {a2 : Int32} {dg : Int32} (e2 : xs 2 = a0) (e3 : xs 3 = a1) (e4 : xs 4 = a2) (c0 : ¬ (a1.toInt < 0)) (c1 : ¬ (a1.toInt < 32)) (o2185 : ob h 32 = some (.inr (14, [.ref 33, .ref 162, .ref 166, .int (0 : Int32), .int (0 : Int32), .int (0 : Int32), .ref 167, .ref 170, .ref 173, .ref 177, .ref 193, .ref 208, .ref 222, .ref 238, .ref 252, .ref 274, .ref 275, .ref 276, .int (0 : Int32)]))) (o2198 : ob h 277 = some (.inr (15, (RB dg)))) : XX l E (M_law nm) 1312 342628 8074320 (fun o _ => o = .inl (some (.int 1))) 1191 [some (.ref 0), some (.ref 32), some (.ref 277), some (.ref 359), some (.int (Int32.ofInt 1)), none, none, none] [] h 328 2463747 := by
  refine x_aload_n (M := (M_law nm)) dL_law_1191 rfl ?_
  refine x_aload_n (M := (M_law nm)) dL_law_1192 rfl ?_
  refine x_iload (M := (M_law nm)) dL_law_1193 rfl ?_
  refine x_iconst (M := (M_law nm)) dL_law_1195 ?_
  refine x_iadd (M := (M_law nm)) dL_law_1196 ?_
  refine x_sald (M := (M_law nm)) dL_law_1197 (by decide) hx (vp_inD (by decide +kernel)) ?_
  refine x_top (M := (M_law nm)) (y := a0) ((congrArg xs (by decide +kernel : ((Int32.ofInt 1) + (Int32.ofInt 1)).toNatClampNeg = 2)).trans e2) ?_
  refine x_aload_n (M := (M_law nm)) dL_law_1198 rfl ?_
  refine x_iload (M := (M_law nm)) dL_law_1199 rfl ?_
  refine x_iconst (M := (M_law nm)) dL_law_1201 ?_
  refine x_iadd (M := (M_law nm)) dL_law_1202 ?_
  refine x_sald (M := (M_law nm)) dL_law_1203 (by decide) hx (vp_inD (by decide +kernel)) ?_
  refine x_top (M := (M_law nm)) (y := a1) ((congrArg xs (by decide +kernel : ((Int32.ofInt 1) + (Int32.ofInt 2)).toNatClampNeg = 3)).trans e3) ?_
  refine x_aload_n (M := (M_law nm)) dL_law_1204 rfl ?_
  refine x_iload (M := (M_law nm)) dL_law_1205 rfl ?_
  refine x_iconst (M := (M_law nm)) dL_law_1207 ?_
  refine x_iadd (M := (M_law nm)) dL_law_1208 ?_
  refine x_sald (M := (M_law nm)) dL_law_1209 (by decide) hx (vp_inD (by decide +kernel)) ?_
  refine x_top (M := (M_law nm)) (y := a2) ((congrArg xs (by decide +kernel : ((Int32.ofInt 1) + (Int32.ofInt 3)).toNatClampNeg = 4)).trans e4) ?_
  refine x_aload_n (M := (M_law nm)) dL_law_1210 rfl ?_
  refine y_callSW (M := (M_law nm)) (M' := M_L_is) rfl rfl dL_law_1211 m_L_is t_2035 t_2036 (q2184 hl c0 c1 o2185) rfl rfl (Nat.le_of_ble_eq_true rfl) (Nat.le_of_ble_eq_true rfl) (Nat.le_of_ble_eq_true rfl) (Nat.le_of_ble_eq_true rfl) (fun h2186 f2187 w2188 => ?_)
  refine x_istore (M := (M_law nm)) dL_law_1214 (Nat.le_of_ble_eq_true rfl) rfl ?_
  refine x_aload_n (M := (M_law nm)) dL_law_1216 rfl ?_
  refine x_aload_n (M := (M_law nm)) dL_law_1217 rfl ?_
  refine x_iload (M := (M_law nm)) dL_law_1218 rfl ?_
  refine x_iconst (M := (M_law nm)) dL_law_1220 ?_
  refine x_iadd (M := (M_law nm)) dL_law_1221 ?_
  refine x_sald (M := (M_law nm)) dL_law_1222 (by decide) hx (vp_inD (by decide +kernel)) ?_
  refine x_top (M := (M_law nm)) (y := a0) ((congrArg xs (by decide +kernel : ((Int32.ofInt 1) + (Int32.ofInt 1)).toNatClampNeg = 2)).trans e2) ?_
  refine x_aload_n (M := (M_law nm)) dL_law_1223 rfl ?_
  refine x_iload (M := (M_law nm)) dL_law_1224 rfl ?_
  refine x_iconst (M := (M_law nm)) dL_law_1226 ?_
  refine x_iadd (M := (M_law nm)) dL_law_1227 ?_
  refine x_sald (M := (M_law nm)) dL_law_1228 (by decide) hx (vp_inD (by decide +kernel)) ?_
  refine x_top (M := (M_law nm)) (y := a1) ((congrArg xs (by decide +kernel : ((Int32.ofInt 1) + (Int32.ofInt 2)).toNatClampNeg = 3)).trans e3) ?_
  refine x_aload_n (M := (M_law nm)) dL_law_1229 rfl ?_
  refine x_iload (M := (M_law nm)) dL_law_1230 rfl ?_
  refine x_iconst (M := (M_law nm)) dL_law_1232 ?_
  refine x_iadd (M := (M_law nm)) dL_law_1233 ?_
  refine x_sald (M := (M_law nm)) dL_law_1234 (by decide) hx (vp_inD (by decide +kernel)) ?_
  refine x_top (M := (M_law nm)) (y := a2) ((congrArg xs (by decide +kernel : ((Int32.ofInt 1) + (Int32.ofInt 3)).toNatClampNeg = 4)).trans e4) ?_
  have o2199 := (f2187 277 _ (by decide) o2198)
  refine y_callVR (M := (M_law nm)) (M' := M_X12_is) rfl rfl dL_law_1235 m_X12_is t_3596 t_3597 t_3598 (q2197 hl c0 c1 o2199) rfl rfl o2199 rfl (Nat.le_of_ble_eq_true rfl) (Nat.le_of_ble_eq_true rfl) (Nat.le_of_ble_eq_true rfl) (Nat.le_of_ble_eq_true rfl) (fun h2200 f2201 w2202 => ?_)
  obtain ⟨o2203, -⟩ := w2202
  refine x_istore (M := (M_law nm)) dL_law_1238 (Nat.le_of_ble_eq_true rfl) rfl ?_
  refine x_aload_n (M := (M_law nm)) dL_law_1240 rfl ?_
  refine x_callVR (M := (M_law nm)) (M' := M_X12_thrown) rfl rfl dL_law_1241 m_X12_thrown t_2797 t_2798 t_2799 (q35 hl o2203) rfl rfl o2203 rfl (Nat.le_of_ble_eq_true rfl) (Nat.le_of_ble_eq_true rfl) (Nat.le_of_ble_eq_true rfl) (Nat.le_of_ble_eq_true rfl) ?_
  refine x_iload (M := (M_law nm)) dL_law_1244 rfl ?_
  refine x_icmp_eq (M := (M_law nm)) (tgt := 1251) dL_law_1246 (by decide) (fun _ => ?_) (fun q => absurd q (by decide +kernel))
  refine x_iload (M := (M_law nm)) dL_law_1251 rfl ?_
  refine x_if_ne (M := (M_law nm)) (tgt := 1275) dL_law_1253 (by decide) (fun _ => ?_) (fun q => absurd q (by decide +kernel))
  refine x_goto (M := (M_law nm)) (tgt := 2449) dL_law_1275 (by decide) ?_
  refine x_iinc (M := (M_law nm)) dL_law_2449 rfl (Nat.le_of_ble_eq_true rfl) rfl ?_
  refine x_lvs (M := (M_law nm)) (lv' := [some (.ref 0), some (.ref 32), some (.ref 277), some (.ref 359), some (.int (Int32.ofInt 7)), some (.int (Int32.ofInt 1)), some (.int (Int32.ofInt 0)), none]) (by rw [(by decide +kernel : (Int32.ofInt 1) + Int32.ofInt 6 = (Int32.ofInt 7))] <;> rfl) ?_
  refine x_goto (M := (M_law nm)) (tgt := 33) dL_law_2452 (by decide) ?_
  refine x_iload (M := (M_law nm)) dL_law_33 rfl ?_
  refine x_aload_n (M := (M_law nm)) dL_law_35 rfl ?_
  refine x_slen (M := (M_law nm)) dL_law_36 (by decide) hx ?_
  refine x_bipush (M := (M_law nm)) dL_law_37 ?_
  refine x_isub (M := (M_law nm)) dL_law_39 ?_
  refine x_icmp_gt (M := (M_law nm)) (tgt := 2455) dL_law_40 (by decide) (fun _ => ?_) (fun q => absurd q (by decide +kernel))
  refine x_iconst (M := (M_law nm)) dL_law_2455 ?_
  exact x_zret (M := (M_law nm)) dL_law_2456 rfl (by decide) rfl (Nat.le_of_ble_eq_true rfl) (Nat.le_of_ble_eq_true rfl)
theorem lop16 {l : Launch} {E : EE} (hl : l.stackTraces = false) (nm : String) {xs : Nat → Int32} (hx : E.2.2.2.2 0 = some (7, xs)) (dg : Int32) : XX l E (M_law nm) 1312 342628 8074320 (fun o _ => o = .inl (some (.int 1))) 1191 [some (.ref 0), some (.ref 32), some (.ref 277), some (.ref 359), some (.int (Int32.ofInt 1)), none, none, none] [] (HH dg) 328 2463747 := by
  obtain ⟨a0, e2⟩ : ∃ a : Int32, xs 2 = a := ⟨_, rfl⟩
  obtain ⟨a1, e3⟩ : ∃ a : Int32, xs 3 = a := ⟨_, rfl⟩
  obtain ⟨a2, e4⟩ : ∃ a : Int32, xs 4 = a := ⟨_, rfl⟩
  obtain ⟨a3, e5⟩ : ∃ a : Int32, xs 5 = a := ⟨_, rfl⟩
  obtain ⟨a4, e6⟩ : ∃ a : Int32, xs 6 = a := ⟨_, rfl⟩
  by_cases c0 : a1.toInt < 0
  · exact lc16_0 hl nm hx e2 e3 e4 c0 (o_32 dg) (o_277b dg)
  · by_cases c1 : a1.toInt < 32
    · by_cases c2 : a2.toInt < 0
      · exact lc16_1 hl nm hx e2 e3 e4 c0 c1 c2 (o_32 dg) (o_33 dg) (o_277b dg)
      · by_cases c3 : a2.toInt < 32
        · have n_a1 : a1.toNatClampNeg < 32 := nc_lt (by omega) (by decide)
          exact lc16_2 hl nm hx e2 e3 e4 c0 c1 c2 c3 (o_32 dg) (o_33 dg) (o_sh dg a1.toNatClampNeg n_a1) (o_277b dg) (oMR (dg := dg) (k := 2) rfl)
        · exact lc16_3 hl nm hx e2 e3 e4 c0 c1 c2 c3 (o_32 dg) (o_33 dg) (o_277b dg)
    · exact lc16_4 hl nm hx e2 e3 e4 c0 c1 (o_32 dg) (o_277b dg)
set_option maxRecDepth 10000 in
theorem q2208 {l : Launch} {E : EE} (hl : l.stackTraces = false) {h : HP} {a0 : Int32} {a1 : Int32} {a2 : Int32} (c0 : a0.toInt < 0) (o2204 : ob h 32 = some (.inr (14, [.ref 33, .ref 162, .ref 166, .int (0 : Int32), .int (0 : Int32), .int (0 : Int32), .ref 167, .ref 170, .ref 173, .ref 177, .ref 193, .ref 208, .ref 222, .ref 238, .ref 252, .ref 274, .ref 275, .ref 276, .int (0 : Int32)]))) : en_C l E M_X11_locate 7 1 6 [.ref 32, .int a0, .int a1, .int a2] h (pT "java/lang/IndexOutOfBoundsException" [] h (fun _ => True)) := by
  refine en_mk m_X11_locate rfl hl (Nat.le_of_ble_eq_true rfl) ?_
  refine x_aload_n (M := M_X11_locate) dX11_locate_0 rfl ?_
  refine x_iload_n (M := M_X11_locate) dX11_locate_1 rfl ?_
  exact y_callVX (M := M_X11_locate) (M' := M_X11_slotNumbered) rfl rfl dX11_locate_2 m_X11_slotNumbered t_744 t_746 s_2 (q392 hl c0) rfl rfl o2204 rfl (Nat.le_of_ble_eq_true rfl) (Nat.le_of_ble_eq_true rfl) (Nat.le_of_ble_eq_true rfl) (Nat.le_of_ble_eq_true rfl) (fun h2205 f2206 w2207 => ⟨rfl, (fr_tr f2206 (fun _ h => nomatch h) fr_rf), trivial⟩)
set_option maxRecDepth 10000 in
theorem q2213 {l : Launch} {E : EE} (hl : l.stackTraces = false) {h : HP} {a0 : Int32} {a1 : Int32} {a2 : Int32} (c0 : a0.toInt < 0) (o2209 : ob h 32 = some (.inr (14, [.ref 33, .ref 162, .ref 166, .int (0 : Int32), .int (0 : Int32), .int (0 : Int32), .ref 167, .ref 170, .ref 173, .ref 177, .ref 193, .ref 208, .ref 222, .ref 238, .ref 252, .ref 274, .ref 275, .ref 276, .int (0 : Int32)]))) : en_C l E M_L_locate 8 1 6 [.ref 32, .int a0, .int a1, .int a2, .ref 359] h (pF (some (.int (Int32.ofInt 1))) [] h (fun _ => True)) := by
  refine en_mkW m_L_locate rfl hl (Nat.le_of_ble_eq_true rfl) ?_
  refine x_aload (M := M_L_locate) dL_locate_0 rfl ?_
  refine x_iconst (M := M_L_locate) dL_locate_2 ?_
  refine x_aload_n (M := M_L_locate) dL_locate_3 rfl ?_
  refine x_iload_n (M := M_L_locate) dL_locate_4 rfl ?_
  refine x_iload_n (M := M_L_locate) dL_locate_5 rfl ?_
  refine x_iload_n (M := M_L_locate) dL_locate_6 rfl ?_
  refine y_callVHX (M := M_L_locate) (M' := M_X11_locate) (i9 := 5) (nx := 17) rfl dL_locate_7 m_X11_locate t_2069 t_2070 t_2071 o2209 rfl (q2208 hl c0 o2209) rfl rfl (Nat.le_of_ble_eq_true rfl) (Nat.le_of_ble_eq_true rfl) (Nat.le_of_ble_eq_true rfl) (Nat.le_of_ble_eq_true rfl) (en_hdm (k0 := 5) [] [(0, 12, 19, 13), (0, 12, 23, 19), (0, 12, 27, 63)] rfl (fun _ h => nomatch h) (by decide +kernel) (by decide) t_739 n_750 dL_locate_15) (by decide) rfl (fun h2210 f2211 w2212 => ?_)
  refine x_iconst (M := M_L_locate) dL_locate_17 ?_
  exact x_iret (M := M_L_locate) dL_locate_18 rfl ⟨rfl, (fr_tr f2211 (fun _ h => nomatch h) fr_rf), trivial⟩ (Nat.le_of_ble_eq_true rfl) (Nat.le_of_ble_eq_true rfl)
set_option maxRecDepth 10000 in
theorem q2226 {l : Launch} {E : EE} (hl : l.stackTraces = false) {h : HP} {a0 : Int32} {a1 : Int32} {a2 : Int32} {dg : Int32} (c0 : a0.toInt < 0) (o2218 : ob h 277 = some (.inr (15, (RB dg)))) : en_C l E M_X12_locate 1 0 0 [.ref 277, .int a0, .int a1, .int a2] h (pF (some (.int (Int32.ofInt 0))) [277] h (fun h' => ob h' 277 = some (.inr (15, ((RB dg).set 0 (.int (Int32.ofInt 1))))) ∧ True)) := by
  refine en_mk m_X12_locate rfl hl (Nat.le_of_ble_eq_true rfl) ?_
  refine x_aload_n (M := M_X12_locate) dX12_locate_0 rfl ?_
  refine x_iconst (M := M_X12_locate) dX12_locate_1 ?_
  refine y_put (M := M_X12_locate) (ci := 15) (C := RX12) (T := TX12) (N := 135) (ty := tyX12) cl15 dX12_locate_2 o2218 0 (by decide) t_2391 (Or.inl rfl) (Nat.le_of_ble_eq_true rfl) rfl (fun h2219 w2220 f2221 => ?_)
  refine x_aload_n (M := M_X12_locate) dX12_locate_5 rfl ?_
  refine x_iload_n (M := M_X12_locate) dX12_locate_6 rfl ?_
  refine x_callSR (M := M_X12_locate) (M' := M_X12_isSlot) rfl rfl dX12_locate_7 m_X12_isSlot t_2841 t_2842 (q411 hl c0) rfl rfl (Nat.le_of_ble_eq_true rfl) (Nat.le_of_ble_eq_true rfl) (Nat.le_of_ble_eq_true rfl) (Nat.le_of_ble_eq_true rfl) ?_
  refine x_if_ne (M := M_X12_locate) (tgt := 17) dX12_locate_10 (by decide) (fun q => absurd q (by decide +kernel)) (fun _ => ?_)
  refine x_iconst (M := M_X12_locate) dX12_locate_13 ?_
  refine x_goto (M := M_X12_locate) (tgt := 18) dX12_locate_14 (by decide) ?_
  refine x_iconst (M := M_X12_locate) dX12_locate_18 ?_
  refine y_callVR (M := M_X12_locate) (M' := M_X12_fails) rfl rfl dX12_locate_19 m_X12_fails t_2805 t_2807 s_157 (q22 hl w2220) rfl rfl w2220 rfl (Nat.le_of_ble_eq_true rfl) (Nat.le_of_ble_eq_true rfl) (Nat.le_of_ble_eq_true rfl) (Nat.le_of_ble_eq_true rfl) (fun h2222 f2223 w2224 => ?_)
  obtain ⟨o2225, -⟩ := w2224
  refine x_if_ne (M := M_X12_locate) (tgt := 46) dX12_locate_22 (by decide) (fun _ => ?_) (fun q => absurd q (by decide +kernel))
  refine x_iconst (M := M_X12_locate) dX12_locate_46 ?_
  exact x_iret (M := M_X12_locate) dX12_locate_47 rfl ⟨rfl, (fr_tr f2223 (by decide) (fr_tr f2221 (by decide) fr_rf)), ⟨o2225, trivial⟩⟩ (Nat.le_of_ble_eq_true rfl) (Nat.le_of_ble_eq_true rfl)
set_option maxRecDepth 10000 in
theorem lc17_0 {l : Launch} {E : EE} (hl : l.stackTraces = false) (nm : String) {xs : Nat → Int32} (hx : E.2.2.2.2 0 = some (7, xs)) {h : HP} {a0 : Int32} {a1 : Int32} {a2 : Int32} {dg : Int32} (e2 : xs 2 = a0) (e3 : xs 3 = a1) (e4 : xs 4 = a2) (c0 : a0.toInt < 0) (o2214 : ob h 32 = some (.inr (14, [.ref 33, .ref 162, .ref 166, .int (0 : Int32), .int (0 : Int32), .int (0 : Int32), .ref 167, .ref 170, .ref 173, .ref 177, .ref 193, .ref 208, .ref 222, .ref 238, .ref 252, .ref 274, .ref 275, .ref 276, .int (0 : Int32)]))) (o2227 : ob h 277 = some (.inr (15, (RB dg)))) : XX l E (M_law nm) 1312 342628 8074320 (fun o _ => o = .inl (some (.int 1))) 1278 [some (.ref 0), some (.ref 32), some (.ref 277), some (.ref 359), some (.int (Int32.ofInt 1)), none, none, none] [] h 328 2463747 := by
  refine x_aload_n (M := (M_law nm)) dL_law_1278 rfl ?_
  refine x_aload_n (M := (M_law nm)) dL_law_1279 rfl ?_
  refine x_iload (M := (M_law nm)) dL_law_1280 rfl ?_
  refine x_iconst (M := (M_law nm)) dL_law_1282 ?_
  refine x_iadd (M := (M_law nm)) dL_law_1283 ?_
  refine x_sald (M := (M_law nm)) dL_law_1284 (by decide) hx (vp_inD (by decide +kernel)) ?_
  refine x_top (M := (M_law nm)) (y := a0) ((congrArg xs (by decide +kernel : ((Int32.ofInt 1) + (Int32.ofInt 1)).toNatClampNeg = 2)).trans e2) ?_
  refine x_aload_n (M := (M_law nm)) dL_law_1285 rfl ?_
  refine x_iload (M := (M_law nm)) dL_law_1286 rfl ?_
  refine x_iconst (M := (M_law nm)) dL_law_1288 ?_
  refine x_iadd (M := (M_law nm)) dL_law_1289 ?_
  refine x_sald (M := (M_law nm)) dL_law_1290 (by decide) hx (vp_inD (by decide +kernel)) ?_
  refine x_top (M := (M_law nm)) (y := a1) ((congrArg xs (by decide +kernel : ((Int32.ofInt 1) + (Int32.ofInt 2)).toNatClampNeg = 3)).trans e3) ?_
  refine x_aload_n (M := (M_law nm)) dL_law_1291 rfl ?_
  refine x_iload (M := (M_law nm)) dL_law_1292 rfl ?_
  refine x_iconst (M := (M_law nm)) dL_law_1294 ?_
  refine x_iadd (M := (M_law nm)) dL_law_1295 ?_
  refine x_sald (M := (M_law nm)) dL_law_1296 (by decide) hx (vp_inD (by decide +kernel)) ?_
  refine x_top (M := (M_law nm)) (y := a2) ((congrArg xs (by decide +kernel : ((Int32.ofInt 1) + (Int32.ofInt 3)).toNatClampNeg = 4)).trans e4) ?_
  refine x_aload_n (M := (M_law nm)) dL_law_1297 rfl ?_
  refine y_callSW (M := (M_law nm)) (M' := M_L_locate) rfl rfl dL_law_1298 m_L_locate t_2066 t_2067 (q2213 hl c0 o2214) rfl rfl (Nat.le_of_ble_eq_true rfl) (Nat.le_of_ble_eq_true rfl) (Nat.le_of_ble_eq_true rfl) (Nat.le_of_ble_eq_true rfl) (fun h2215 f2216 w2217 => ?_)
  refine x_istore (M := (M_law nm)) dL_law_1301 (Nat.le_of_ble_eq_true rfl) rfl ?_
  refine x_aload_n (M := (M_law nm)) dL_law_1303 rfl ?_
  refine x_aload_n (M := (M_law nm)) dL_law_1304 rfl ?_
  refine x_iload (M := (M_law nm)) dL_law_1305 rfl ?_
  refine x_iconst (M := (M_law nm)) dL_law_1307 ?_
  refine x_iadd (M := (M_law nm)) dL_law_1308 ?_
  refine x_sald (M := (M_law nm)) dL_law_1309 (by decide) hx (vp_inD (by decide +kernel)) ?_
  refine x_top (M := (M_law nm)) (y := a0) ((congrArg xs (by decide +kernel : ((Int32.ofInt 1) + (Int32.ofInt 1)).toNatClampNeg = 2)).trans e2) ?_
  refine x_aload_n (M := (M_law nm)) dL_law_1310 rfl ?_
  refine x_iload (M := (M_law nm)) dL_law_1311 rfl ?_
  refine x_iconst (M := (M_law nm)) dL_law_1313 ?_
  refine x_iadd (M := (M_law nm)) dL_law_1314 ?_
  refine x_sald (M := (M_law nm)) dL_law_1315 (by decide) hx (vp_inD (by decide +kernel)) ?_
  refine x_top (M := (M_law nm)) (y := a1) ((congrArg xs (by decide +kernel : ((Int32.ofInt 1) + (Int32.ofInt 2)).toNatClampNeg = 3)).trans e3) ?_
  refine x_aload_n (M := (M_law nm)) dL_law_1316 rfl ?_
  refine x_iload (M := (M_law nm)) dL_law_1317 rfl ?_
  refine x_iconst (M := (M_law nm)) dL_law_1319 ?_
  refine x_iadd (M := (M_law nm)) dL_law_1320 ?_
  refine x_sald (M := (M_law nm)) dL_law_1321 (by decide) hx (vp_inD (by decide +kernel)) ?_
  refine x_top (M := (M_law nm)) (y := a2) ((congrArg xs (by decide +kernel : ((Int32.ofInt 1) + (Int32.ofInt 3)).toNatClampNeg = 4)).trans e4) ?_
  have o2228 := (f2216 277 _ (by decide) o2227)
  refine y_callVR (M := (M_law nm)) (M' := M_X12_locate) rfl rfl dL_law_1322 m_X12_locate t_3613 t_3614 t_3615 (q2226 hl c0 o2228) rfl rfl o2228 rfl (Nat.le_of_ble_eq_true rfl) (Nat.le_of_ble_eq_true rfl) (Nat.le_of_ble_eq_true rfl) (Nat.le_of_ble_eq_true rfl) (fun h2229 f2230 w2231 => ?_)
  obtain ⟨o2232, -⟩ := w2231
  refine x_istore (M := (M_law nm)) dL_law_1325 (Nat.le_of_ble_eq_true rfl) rfl ?_
  refine x_aload_n (M := (M_law nm)) dL_law_1327 rfl ?_
  refine x_callVR (M := (M_law nm)) (M' := M_X12_thrown) rfl rfl dL_law_1328 m_X12_thrown t_2797 t_2798 t_2799 (q35 hl o2232) rfl rfl o2232 rfl (Nat.le_of_ble_eq_true rfl) (Nat.le_of_ble_eq_true rfl) (Nat.le_of_ble_eq_true rfl) (Nat.le_of_ble_eq_true rfl) ?_
  refine x_iload (M := (M_law nm)) dL_law_1331 rfl ?_
  refine x_icmp_eq (M := (M_law nm)) (tgt := 1338) dL_law_1333 (by decide) (fun _ => ?_) (fun q => absurd q (by decide +kernel))
  refine x_iload (M := (M_law nm)) dL_law_1338 rfl ?_
  refine x_if_ne (M := (M_law nm)) (tgt := 1355) dL_law_1340 (by decide) (fun _ => ?_) (fun q => absurd q (by decide +kernel))
  refine x_goto (M := (M_law nm)) (tgt := 2449) dL_law_1355 (by decide) ?_
  refine x_iinc (M := (M_law nm)) dL_law_2449 rfl (Nat.le_of_ble_eq_true rfl) rfl ?_
  refine x_lvs (M := (M_law nm)) (lv' := [some (.ref 0), some (.ref 32), some (.ref 277), some (.ref 359), some (.int (Int32.ofInt 7)), some (.int (Int32.ofInt 1)), some (.int (Int32.ofInt 0)), none]) (by rw [(by decide +kernel : (Int32.ofInt 1) + Int32.ofInt 6 = (Int32.ofInt 7))] <;> rfl) ?_
  refine x_goto (M := (M_law nm)) (tgt := 33) dL_law_2452 (by decide) ?_
  refine x_iload (M := (M_law nm)) dL_law_33 rfl ?_
  refine x_aload_n (M := (M_law nm)) dL_law_35 rfl ?_
  refine x_slen (M := (M_law nm)) dL_law_36 (by decide) hx ?_
  refine x_bipush (M := (M_law nm)) dL_law_37 ?_
  refine x_isub (M := (M_law nm)) dL_law_39 ?_
  refine x_icmp_gt (M := (M_law nm)) (tgt := 2455) dL_law_40 (by decide) (fun _ => ?_) (fun q => absurd q (by decide +kernel))
  refine x_iconst (M := (M_law nm)) dL_law_2455 ?_
  exact x_zret (M := (M_law nm)) dL_law_2456 rfl (by decide) rfl (Nat.le_of_ble_eq_true rfl) (Nat.le_of_ble_eq_true rfl)
set_option maxRecDepth 10000 in
theorem q2239 {l : Launch} {E : EE} (hl : l.stackTraces = false) {h : HP} {a0 : Int32} {a1 : Int32} {a2 : Int32} (c0 : ¬ (a0.toInt < 0)) (c1 : a0.toInt < 32) (o2233 : ob h 32 = some (.inr (14, [.ref 33, .ref 162, .ref 166, .int (0 : Int32), .int (0 : Int32), .int (0 : Int32), .ref 167, .ref 170, .ref 173, .ref 177, .ref 193, .ref 208, .ref 222, .ref 238, .ref 252, .ref 274, .ref 275, .ref 276, .int (0 : Int32)]))) (o2234 : ob h 33 = some (.inl (4, 32, .inr (.inr (.inr (.inr (shf 1 32))))))) (o2235 : ob h (34 + 4 * a0.toNatClampNeg) = some (.inr (9, [.ref (35 + 4 * a0.toNatClampNeg), .ref (36 + 4 * a0.toNatClampNeg), .ref (37 + 4 * a0.toNatClampNeg), .int (0 : Int32), .int (0 : Int32)]))) : en_C l E M_X11_locate 7 1 6 [.ref 32, .int a0, .int a1, .int a2] h (pT "java/lang/IllegalStateException" [] h (fun _ => True)) := by
  have n_a0 : a0.toNatClampNeg < 32 := nc_lt (by omega) (by decide)
  refine en_mk m_X11_locate rfl hl (Nat.le_of_ble_eq_true rfl) ?_
  refine x_aload_n (M := M_X11_locate) dX11_locate_0 rfl ?_
  refine x_iload_n (M := M_X11_locate) dX11_locate_1 rfl ?_
  refine x_callVR (M := M_X11_locate) (M' := M_X11_slotNumbered) rfl rfl dX11_locate_2 m_X11_slotNumbered t_744 t_746 s_2 (q425 hl c0 c1 o2233 o2234) rfl rfl o2233 rfl (Nat.le_of_ble_eq_true rfl) (Nat.le_of_ble_eq_true rfl) (Nat.le_of_ble_eq_true rfl) (Nat.le_of_ble_eq_true rfl) ?_
  refine x_astore (M := M_X11_locate) dX11_locate_5 (Nat.le_of_ble_eq_true rfl) rfl ?_
  refine x_aload (M := M_X11_locate) dX11_locate_7 rfl ?_
  exact y_callSX (M := M_X11_locate) (M' := M_X11_mustBeThere) rfl rfl dX11_locate_9 m_X11_mustBeThere t_1047 t_1048 (q810 hl c0 c1 o2235) rfl rfl (Nat.le_of_ble_eq_true rfl) (Nat.le_of_ble_eq_true rfl) (Nat.le_of_ble_eq_true rfl) (Nat.le_of_ble_eq_true rfl) (fun h2236 f2237 w2238 => ⟨rfl, (fr_tr f2237 (fun _ h => nomatch h) fr_rf), trivial⟩)
set_option maxRecDepth 10000 in
theorem q2246 {l : Launch} {E : EE} (hl : l.stackTraces = false) {h : HP} {a0 : Int32} {a1 : Int32} {a2 : Int32} (c0 : ¬ (a0.toInt < 0)) (c1 : a0.toInt < 32) (o2240 : ob h 32 = some (.inr (14, [.ref 33, .ref 162, .ref 166, .int (0 : Int32), .int (0 : Int32), .int (0 : Int32), .ref 167, .ref 170, .ref 173, .ref 177, .ref 193, .ref 208, .ref 222, .ref 238, .ref 252, .ref 274, .ref 275, .ref 276, .int (0 : Int32)]))) (o2241 : ob h 33 = some (.inl (4, 32, .inr (.inr (.inr (.inr (shf 1 32))))))) (o2242 : ob h (34 + 4 * a0.toNatClampNeg) = some (.inr (9, [.ref (35 + 4 * a0.toNatClampNeg), .ref (36 + 4 * a0.toNatClampNeg), .ref (37 + 4 * a0.toNatClampNeg), .int (0 : Int32), .int (0 : Int32)]))) : en_C l E M_L_locate 8 1 6 [.ref 32, .int a0, .int a1, .int a2, .ref 359] h (pF (some (.int (Int32.ofInt 2))) [] h (fun _ => True)) := by
  have n_a0 : a0.toNatClampNeg < 32 := nc_lt (by omega) (by decide)
  refine en_mkW m_L_locate rfl hl (Nat.le_of_ble_eq_true rfl) ?_
  refine x_aload (M := M_L_locate) dL_locate_0 rfl ?_
  refine x_iconst (M := M_L_locate) dL_locate_2 ?_
  refine x_aload_n (M := M_L_locate) dL_locate_3 rfl ?_
  refine x_iload_n (M := M_L_locate) dL_locate_4 rfl ?_
  refine x_iload_n (M := M_L_locate) dL_locate_5 rfl ?_
  refine x_iload_n (M := M_L_locate) dL_locate_6 rfl ?_
  refine y_callVHX (M := M_L_locate) (M' := M_X11_locate) (i9 := 5) (nx := 21) rfl dL_locate_7 m_X11_locate t_2069 t_2070 t_2071 o2240 rfl (q2239 hl c0 c1 o2240 o2241 o2242) rfl rfl (Nat.le_of_ble_eq_true rfl) (Nat.le_of_ble_eq_true rfl) (Nat.le_of_ble_eq_true rfl) (Nat.le_of_ble_eq_true rfl) (en_hdm (k0 := 5) [(0, 12, 15, 24)] [(0, 12, 23, 19), (0, 12, 27, 63)] rfl (List.forall_mem_cons.mpr ⟨⟨by decide, "java/lang/IndexOutOfBoundsException", t_739, by decide +kernel, by decide +kernel, by decide +kernel⟩, (fun _ h => nomatch h)⟩) (by decide +kernel) (by decide) t_637 n_645 dL_locate_19) (by decide) rfl (fun h2243 f2244 w2245 => ?_)
  refine x_iconst (M := M_L_locate) dL_locate_21 ?_
  exact x_iret (M := M_L_locate) dL_locate_22 rfl ⟨rfl, (fr_tr f2244 (fun _ h => nomatch h) fr_rf), trivial⟩ (Nat.le_of_ble_eq_true rfl) (Nat.le_of_ble_eq_true rfl)
set_option maxRecDepth 10000 in
theorem q2267 {l : Launch} {E : EE} (hl : l.stackTraces = false) {h : HP} {a0 : Int32} {a1 : Int32} {a2 : Int32} {dg : Int32} (c0 : ¬ (a0.toInt < 0)) (c1 : a0.toInt < 32) (o2253 : ob h 277 = some (.inr (15, (RB dg)))) (o2261 : ob h 280 = some (.inl (0, 33, .inl (fun _ => 0)))) : en_C l E M_X12_locate 1 0 0 [.ref 277, .int a0, .int a1, .int a2] h (pF (some (.int (Int32.ofInt 0))) [277] h (fun h' => ob h' 277 = some (.inr (15, ((RB dg).set 0 (.int (Int32.ofInt 2))))) ∧ True)) := by
  refine en_mk m_X12_locate rfl hl (Nat.le_of_ble_eq_true rfl) ?_
  refine x_aload_n (M := M_X12_locate) dX12_locate_0 rfl ?_
  refine x_iconst (M := M_X12_locate) dX12_locate_1 ?_
  refine y_put (M := M_X12_locate) (ci := 15) (C := RX12) (T := TX12) (N := 135) (ty := tyX12) cl15 dX12_locate_2 o2253 0 (by decide) t_2391 (Or.inl rfl) (Nat.le_of_ble_eq_true rfl) rfl (fun h2254 w2255 f2256 => ?_)
  refine x_aload_n (M := M_X12_locate) dX12_locate_5 rfl ?_
  refine x_iload_n (M := M_X12_locate) dX12_locate_6 rfl ?_
  refine x_callSR (M := M_X12_locate) (M' := M_X12_isSlot) rfl rfl dX12_locate_7 m_X12_isSlot t_2841 t_2842 (q447 hl c0 c1) rfl rfl (Nat.le_of_ble_eq_true rfl) (Nat.le_of_ble_eq_true rfl) (Nat.le_of_ble_eq_true rfl) (Nat.le_of_ble_eq_true rfl) ?_
  refine x_if_ne (M := M_X12_locate) (tgt := 17) dX12_locate_10 (by decide) (fun _ => ?_) (fun q => absurd q (by decide +kernel))
  refine x_iconst (M := M_X12_locate) dX12_locate_17 ?_
  refine x_iconst (M := M_X12_locate) dX12_locate_18 ?_
  refine y_callVR (M := M_X12_locate) (M' := M_X12_fails) rfl rfl dX12_locate_19 m_X12_fails t_2805 t_2807 s_157 (q241 hl w2255) rfl rfl w2255 rfl (Nat.le_of_ble_eq_true rfl) (Nat.le_of_ble_eq_true rfl) (Nat.le_of_ble_eq_true rfl) (Nat.le_of_ble_eq_true rfl) (fun h2257 f2258 w2259 => ?_)
  obtain ⟨o2260, -⟩ := w2259
  refine x_if_ne (M := M_X12_locate) (tgt := 46) dX12_locate_22 (by decide) (fun q => absurd q (by decide +kernel)) (fun _ => ?_)
  refine x_aload_n (M := M_X12_locate) dX12_locate_25 rfl ?_
  refine x_aload_n (M := M_X12_locate) dX12_locate_26 rfl ?_
  refine x_iload_n (M := M_X12_locate) dX12_locate_27 rfl ?_
  have o2262 := (f2258 280 _ (by decide) (f2256 280 _ (by decide) o2261))
  refine x_callVR (M := M_X12_locate) (M' := M_X12_has) rfl rfl dX12_locate_28 m_X12_has t_3033 t_3035 s_197 (q839 hl c0 c1 o2260 o2262) rfl rfl o2260 rfl (Nat.le_of_ble_eq_true rfl) (Nat.le_of_ble_eq_true rfl) (Nat.le_of_ble_eq_true rfl) (Nat.le_of_ble_eq_true rfl) ?_
  refine x_if_ne (M := M_X12_locate) (tgt := 38) dX12_locate_31 (by decide) (fun q => absurd q (by decide +kernel)) (fun _ => ?_)
  refine x_iconst (M := M_X12_locate) dX12_locate_34 ?_
  refine x_goto (M := M_X12_locate) (tgt := 39) dX12_locate_35 (by decide) ?_
  refine x_iconst (M := M_X12_locate) dX12_locate_39 ?_
  refine y_callVR (M := M_X12_locate) (M' := M_X12_fails) rfl rfl dX12_locate_40 m_X12_fails t_2805 t_2807 s_157 (q761 hl o2260) rfl rfl o2260 rfl (Nat.le_of_ble_eq_true rfl) (Nat.le_of_ble_eq_true rfl) (Nat.le_of_ble_eq_true rfl) (Nat.le_of_ble_eq_true rfl) (fun h2263 f2264 w2265 => ?_)
  obtain ⟨o2266, -⟩ := w2265
  refine x_if_eq (M := M_X12_locate) (tgt := 48) dX12_locate_43 (by decide) (fun q => absurd q (by decide +kernel)) (fun _ => ?_)
  refine x_iconst (M := M_X12_locate) dX12_locate_46 ?_
  exact x_iret (M := M_X12_locate) dX12_locate_47 rfl ⟨rfl, (fr_tr f2264 (by decide) (fr_tr f2258 (by decide) (fr_tr f2256 (by decide) fr_rf))), ⟨o2266, trivial⟩⟩ (Nat.le_of_ble_eq_true rfl) (Nat.le_of_ble_eq_true rfl)
set_option maxRecDepth 10000 in
theorem lc17_1 {l : Launch} {E : EE} (hl : l.stackTraces = false) (nm : String) {xs : Nat → Int32} (hx : E.2.2.2.2 0 = some (7, xs)) {h : HP} {a0 : Int32} {a1 : Int32} {a2 : Int32} {dg : Int32} (e2 : xs 2 = a0) (e3 : xs 3 = a1) (e4 : xs 4 = a2) (c0 : ¬ (a0.toInt < 0)) (c1 : a0.toInt < 32) (o2247 : ob h 32 = some (.inr (14, [.ref 33, .ref 162, .ref 166, .int (0 : Int32), .int (0 : Int32), .int (0 : Int32), .ref 167, .ref 170, .ref 173, .ref 177, .ref 193, .ref 208, .ref 222, .ref 238, .ref 252, .ref 274, .ref 275, .ref 276, .int (0 : Int32)]))) (o2248 : ob h 33 = some (.inl (4, 32, .inr (.inr (.inr (.inr (shf 1 32))))))) (o2249 : ob h (34 + 4 * a0.toNatClampNeg) = some (.inr (9, [.ref (35 + 4 * a0.toNatClampNeg), .ref (36 + 4 * a0.toNatClampNeg), .ref (37 + 4 * a0.toNatClampNeg), .int (0 : Int32), .int (0 : Int32)]))) (o2268 : ob h 277 = some (.inr (15, (RB dg)))) (o2270 : ob h 280 = some (.inl (0, 33, .inl (fun _ => 0)))) : XX l E (M_law nm) 1312 342628 8074320 (fun o _ => o = .inl (some (.int 1))) 1278 [some (.ref 0), some (.ref 32), some (.ref 277), some (.ref 359), some (.int (Int32.ofInt 1)), none, none, none] [] h 328 2463747 := by
  have n_a0 : a0.toNatClampNeg < 32 := nc_lt (by omega) (by decide)
  refine x_aload_n (M := (M_law nm)) dL_law_1278 rfl ?_
  refine x_aload_n (M := (M_law nm)) dL_law_1279 rfl ?_
  refine x_iload (M := (M_law nm)) dL_law_1280 rfl ?_
  refine x_iconst (M := (M_law nm)) dL_law_1282 ?_
  refine x_iadd (M := (M_law nm)) dL_law_1283 ?_
  refine x_sald (M := (M_law nm)) dL_law_1284 (by decide) hx (vp_inD (by decide +kernel)) ?_
  refine x_top (M := (M_law nm)) (y := a0) ((congrArg xs (by decide +kernel : ((Int32.ofInt 1) + (Int32.ofInt 1)).toNatClampNeg = 2)).trans e2) ?_
  refine x_aload_n (M := (M_law nm)) dL_law_1285 rfl ?_
  refine x_iload (M := (M_law nm)) dL_law_1286 rfl ?_
  refine x_iconst (M := (M_law nm)) dL_law_1288 ?_
  refine x_iadd (M := (M_law nm)) dL_law_1289 ?_
  refine x_sald (M := (M_law nm)) dL_law_1290 (by decide) hx (vp_inD (by decide +kernel)) ?_
  refine x_top (M := (M_law nm)) (y := a1) ((congrArg xs (by decide +kernel : ((Int32.ofInt 1) + (Int32.ofInt 2)).toNatClampNeg = 3)).trans e3) ?_
  refine x_aload_n (M := (M_law nm)) dL_law_1291 rfl ?_
  refine x_iload (M := (M_law nm)) dL_law_1292 rfl ?_
  refine x_iconst (M := (M_law nm)) dL_law_1294 ?_
  refine x_iadd (M := (M_law nm)) dL_law_1295 ?_
  refine x_sald (M := (M_law nm)) dL_law_1296 (by decide) hx (vp_inD (by decide +kernel)) ?_
  refine x_top (M := (M_law nm)) (y := a2) ((congrArg xs (by decide +kernel : ((Int32.ofInt 1) + (Int32.ofInt 3)).toNatClampNeg = 4)).trans e4) ?_
  refine x_aload_n (M := (M_law nm)) dL_law_1297 rfl ?_
  refine y_callSW (M := (M_law nm)) (M' := M_L_locate) rfl rfl dL_law_1298 m_L_locate t_2066 t_2067 (q2246 hl c0 c1 o2247 o2248 o2249) rfl rfl (Nat.le_of_ble_eq_true rfl) (Nat.le_of_ble_eq_true rfl) (Nat.le_of_ble_eq_true rfl) (Nat.le_of_ble_eq_true rfl) (fun h2250 f2251 w2252 => ?_)
  refine x_istore (M := (M_law nm)) dL_law_1301 (Nat.le_of_ble_eq_true rfl) rfl ?_
  refine x_aload_n (M := (M_law nm)) dL_law_1303 rfl ?_
  refine x_aload_n (M := (M_law nm)) dL_law_1304 rfl ?_
  refine x_iload (M := (M_law nm)) dL_law_1305 rfl ?_
  refine x_iconst (M := (M_law nm)) dL_law_1307 ?_
  refine x_iadd (M := (M_law nm)) dL_law_1308 ?_
  refine x_sald (M := (M_law nm)) dL_law_1309 (by decide) hx (vp_inD (by decide +kernel)) ?_
  refine x_top (M := (M_law nm)) (y := a0) ((congrArg xs (by decide +kernel : ((Int32.ofInt 1) + (Int32.ofInt 1)).toNatClampNeg = 2)).trans e2) ?_
  refine x_aload_n (M := (M_law nm)) dL_law_1310 rfl ?_
  refine x_iload (M := (M_law nm)) dL_law_1311 rfl ?_
  refine x_iconst (M := (M_law nm)) dL_law_1313 ?_
  refine x_iadd (M := (M_law nm)) dL_law_1314 ?_
  refine x_sald (M := (M_law nm)) dL_law_1315 (by decide) hx (vp_inD (by decide +kernel)) ?_
  refine x_top (M := (M_law nm)) (y := a1) ((congrArg xs (by decide +kernel : ((Int32.ofInt 1) + (Int32.ofInt 2)).toNatClampNeg = 3)).trans e3) ?_
  refine x_aload_n (M := (M_law nm)) dL_law_1316 rfl ?_
  refine x_iload (M := (M_law nm)) dL_law_1317 rfl ?_
  refine x_iconst (M := (M_law nm)) dL_law_1319 ?_
  refine x_iadd (M := (M_law nm)) dL_law_1320 ?_
  refine x_sald (M := (M_law nm)) dL_law_1321 (by decide) hx (vp_inD (by decide +kernel)) ?_
  refine x_top (M := (M_law nm)) (y := a2) ((congrArg xs (by decide +kernel : ((Int32.ofInt 1) + (Int32.ofInt 3)).toNatClampNeg = 4)).trans e4) ?_
  have o2269 := (f2251 277 _ (by decide) o2268)
  have o2271 := (f2251 280 _ (by decide) o2270)
  refine y_callVR (M := (M_law nm)) (M' := M_X12_locate) rfl rfl dL_law_1322 m_X12_locate t_3613 t_3614 t_3615 (q2267 hl c0 c1 o2269 o2271) rfl rfl o2269 rfl (Nat.le_of_ble_eq_true rfl) (Nat.le_of_ble_eq_true rfl) (Nat.le_of_ble_eq_true rfl) (Nat.le_of_ble_eq_true rfl) (fun h2272 f2273 w2274 => ?_)
  obtain ⟨o2275, -⟩ := w2274
  refine x_istore (M := (M_law nm)) dL_law_1325 (Nat.le_of_ble_eq_true rfl) rfl ?_
  refine x_aload_n (M := (M_law nm)) dL_law_1327 rfl ?_
  refine x_callVR (M := (M_law nm)) (M' := M_X12_thrown) rfl rfl dL_law_1328 m_X12_thrown t_2797 t_2798 t_2799 (q774 hl o2275) rfl rfl o2275 rfl (Nat.le_of_ble_eq_true rfl) (Nat.le_of_ble_eq_true rfl) (Nat.le_of_ble_eq_true rfl) (Nat.le_of_ble_eq_true rfl) ?_
  refine x_iload (M := (M_law nm)) dL_law_1331 rfl ?_
  refine x_icmp_eq (M := (M_law nm)) (tgt := 1338) dL_law_1333 (by decide) (fun _ => ?_) (fun q => absurd q (by decide +kernel))
  refine x_iload (M := (M_law nm)) dL_law_1338 rfl ?_
  refine x_if_ne (M := (M_law nm)) (tgt := 1355) dL_law_1340 (by decide) (fun _ => ?_) (fun q => absurd q (by decide +kernel))
  refine x_goto (M := (M_law nm)) (tgt := 2449) dL_law_1355 (by decide) ?_
  refine x_iinc (M := (M_law nm)) dL_law_2449 rfl (Nat.le_of_ble_eq_true rfl) rfl ?_
  refine x_lvs (M := (M_law nm)) (lv' := [some (.ref 0), some (.ref 32), some (.ref 277), some (.ref 359), some (.int (Int32.ofInt 7)), some (.int (Int32.ofInt 2)), some (.int (Int32.ofInt 0)), none]) (by rw [(by decide +kernel : (Int32.ofInt 1) + Int32.ofInt 6 = (Int32.ofInt 7))] <;> rfl) ?_
  refine x_goto (M := (M_law nm)) (tgt := 33) dL_law_2452 (by decide) ?_
  refine x_iload (M := (M_law nm)) dL_law_33 rfl ?_
  refine x_aload_n (M := (M_law nm)) dL_law_35 rfl ?_
  refine x_slen (M := (M_law nm)) dL_law_36 (by decide) hx ?_
  refine x_bipush (M := (M_law nm)) dL_law_37 ?_
  refine x_isub (M := (M_law nm)) dL_law_39 ?_
  refine x_icmp_gt (M := (M_law nm)) (tgt := 2455) dL_law_40 (by decide) (fun _ => ?_) (fun q => absurd q (by decide +kernel))
  refine x_iconst (M := (M_law nm)) dL_law_2455 ?_
  exact x_zret (M := (M_law nm)) dL_law_2456 rfl (by decide) rfl (Nat.le_of_ble_eq_true rfl) (Nat.le_of_ble_eq_true rfl)
set_option maxRecDepth 10000 in
theorem q2280 {l : Launch} {E : EE} (hl : l.stackTraces = false) {h : HP} {a0 : Int32} {a1 : Int32} {a2 : Int32} (c0 : ¬ (a0.toInt < 0)) (c1 : ¬ (a0.toInt < 32)) (o2276 : ob h 32 = some (.inr (14, [.ref 33, .ref 162, .ref 166, .int (0 : Int32), .int (0 : Int32), .int (0 : Int32), .ref 167, .ref 170, .ref 173, .ref 177, .ref 193, .ref 208, .ref 222, .ref 238, .ref 252, .ref 274, .ref 275, .ref 276, .int (0 : Int32)]))) : en_C l E M_X11_locate 7 1 6 [.ref 32, .int a0, .int a1, .int a2] h (pT "java/lang/IndexOutOfBoundsException" [] h (fun _ => True)) := by
  refine en_mk m_X11_locate rfl hl (Nat.le_of_ble_eq_true rfl) ?_
  refine x_aload_n (M := M_X11_locate) dX11_locate_0 rfl ?_
  refine x_iload_n (M := M_X11_locate) dX11_locate_1 rfl ?_
  exact y_callVX (M := M_X11_locate) (M' := M_X11_slotNumbered) rfl rfl dX11_locate_2 m_X11_slotNumbered t_744 t_746 s_2 (q511 hl c0 c1) rfl rfl o2276 rfl (Nat.le_of_ble_eq_true rfl) (Nat.le_of_ble_eq_true rfl) (Nat.le_of_ble_eq_true rfl) (Nat.le_of_ble_eq_true rfl) (fun h2277 f2278 w2279 => ⟨rfl, (fr_tr f2278 (fun _ h => nomatch h) fr_rf), trivial⟩)
set_option maxRecDepth 10000 in
theorem q2285 {l : Launch} {E : EE} (hl : l.stackTraces = false) {h : HP} {a0 : Int32} {a1 : Int32} {a2 : Int32} (c0 : ¬ (a0.toInt < 0)) (c1 : ¬ (a0.toInt < 32)) (o2281 : ob h 32 = some (.inr (14, [.ref 33, .ref 162, .ref 166, .int (0 : Int32), .int (0 : Int32), .int (0 : Int32), .ref 167, .ref 170, .ref 173, .ref 177, .ref 193, .ref 208, .ref 222, .ref 238, .ref 252, .ref 274, .ref 275, .ref 276, .int (0 : Int32)]))) : en_C l E M_L_locate 8 1 6 [.ref 32, .int a0, .int a1, .int a2, .ref 359] h (pF (some (.int (Int32.ofInt 1))) [] h (fun _ => True)) := by
  refine en_mkW m_L_locate rfl hl (Nat.le_of_ble_eq_true rfl) ?_
  refine x_aload (M := M_L_locate) dL_locate_0 rfl ?_
  refine x_iconst (M := M_L_locate) dL_locate_2 ?_
  refine x_aload_n (M := M_L_locate) dL_locate_3 rfl ?_
  refine x_iload_n (M := M_L_locate) dL_locate_4 rfl ?_
  refine x_iload_n (M := M_L_locate) dL_locate_5 rfl ?_
  refine x_iload_n (M := M_L_locate) dL_locate_6 rfl ?_
  refine y_callVHX (M := M_L_locate) (M' := M_X11_locate) (i9 := 5) (nx := 17) rfl dL_locate_7 m_X11_locate t_2069 t_2070 t_2071 o2281 rfl (q2280 hl c0 c1 o2281) rfl rfl (Nat.le_of_ble_eq_true rfl) (Nat.le_of_ble_eq_true rfl) (Nat.le_of_ble_eq_true rfl) (Nat.le_of_ble_eq_true rfl) (en_hdm (k0 := 5) [] [(0, 12, 19, 13), (0, 12, 23, 19), (0, 12, 27, 63)] rfl (fun _ h => nomatch h) (by decide +kernel) (by decide) t_739 n_750 dL_locate_15) (by decide) rfl (fun h2282 f2283 w2284 => ?_)
  refine x_iconst (M := M_L_locate) dL_locate_17 ?_
  exact x_iret (M := M_L_locate) dL_locate_18 rfl ⟨rfl, (fr_tr f2283 (fun _ h => nomatch h) fr_rf), trivial⟩ (Nat.le_of_ble_eq_true rfl) (Nat.le_of_ble_eq_true rfl)
set_option maxRecDepth 10000 in
theorem q2298 {l : Launch} {E : EE} (hl : l.stackTraces = false) {h : HP} {a0 : Int32} {a1 : Int32} {a2 : Int32} {dg : Int32} (c0 : ¬ (a0.toInt < 0)) (c1 : ¬ (a0.toInt < 32)) (o2290 : ob h 277 = some (.inr (15, (RB dg)))) : en_C l E M_X12_locate 1 0 0 [.ref 277, .int a0, .int a1, .int a2] h (pF (some (.int (Int32.ofInt 0))) [277] h (fun h' => ob h' 277 = some (.inr (15, ((RB dg).set 0 (.int (Int32.ofInt 1))))) ∧ True)) := by
  refine en_mk m_X12_locate rfl hl (Nat.le_of_ble_eq_true rfl) ?_
  refine x_aload_n (M := M_X12_locate) dX12_locate_0 rfl ?_
  refine x_iconst (M := M_X12_locate) dX12_locate_1 ?_
  refine y_put (M := M_X12_locate) (ci := 15) (C := RX12) (T := TX12) (N := 135) (ty := tyX12) cl15 dX12_locate_2 o2290 0 (by decide) t_2391 (Or.inl rfl) (Nat.le_of_ble_eq_true rfl) rfl (fun h2291 w2292 f2293 => ?_)
  refine x_aload_n (M := M_X12_locate) dX12_locate_5 rfl ?_
  refine x_iload_n (M := M_X12_locate) dX12_locate_6 rfl ?_
  refine x_callSR (M := M_X12_locate) (M' := M_X12_isSlot) rfl rfl dX12_locate_7 m_X12_isSlot t_2841 t_2842 (q530 hl c0 c1) rfl rfl (Nat.le_of_ble_eq_true rfl) (Nat.le_of_ble_eq_true rfl) (Nat.le_of_ble_eq_true rfl) (Nat.le_of_ble_eq_true rfl) ?_
  refine x_if_ne (M := M_X12_locate) (tgt := 17) dX12_locate_10 (by decide) (fun q => absurd q (by decide +kernel)) (fun _ => ?_)
  refine x_iconst (M := M_X12_locate) dX12_locate_13 ?_
  refine x_goto (M := M_X12_locate) (tgt := 18) dX12_locate_14 (by decide) ?_
  refine x_iconst (M := M_X12_locate) dX12_locate_18 ?_
  refine y_callVR (M := M_X12_locate) (M' := M_X12_fails) rfl rfl dX12_locate_19 m_X12_fails t_2805 t_2807 s_157 (q22 hl w2292) rfl rfl w2292 rfl (Nat.le_of_ble_eq_true rfl) (Nat.le_of_ble_eq_true rfl) (Nat.le_of_ble_eq_true rfl) (Nat.le_of_ble_eq_true rfl) (fun h2294 f2295 w2296 => ?_)
  obtain ⟨o2297, -⟩ := w2296
  refine x_if_ne (M := M_X12_locate) (tgt := 46) dX12_locate_22 (by decide) (fun _ => ?_) (fun q => absurd q (by decide +kernel))
  refine x_iconst (M := M_X12_locate) dX12_locate_46 ?_
  exact x_iret (M := M_X12_locate) dX12_locate_47 rfl ⟨rfl, (fr_tr f2295 (by decide) (fr_tr f2293 (by decide) fr_rf)), ⟨o2297, trivial⟩⟩ (Nat.le_of_ble_eq_true rfl) (Nat.le_of_ble_eq_true rfl)
set_option maxRecDepth 10000 in
theorem lc17_2 {l : Launch} {E : EE} (hl : l.stackTraces = false) (nm : String) {xs : Nat → Int32} (hx : E.2.2.2.2 0 = some (7, xs)) {h : HP} {a0 : Int32} {a1 : Int32} {a2 : Int32} {dg : Int32} (e2 : xs 2 = a0) (e3 : xs 3 = a1) (e4 : xs 4 = a2) (c0 : ¬ (a0.toInt < 0)) (c1 : ¬ (a0.toInt < 32)) (o2286 : ob h 32 = some (.inr (14, [.ref 33, .ref 162, .ref 166, .int (0 : Int32), .int (0 : Int32), .int (0 : Int32), .ref 167, .ref 170, .ref 173, .ref 177, .ref 193, .ref 208, .ref 222, .ref 238, .ref 252, .ref 274, .ref 275, .ref 276, .int (0 : Int32)]))) (o2299 : ob h 277 = some (.inr (15, (RB dg)))) : XX l E (M_law nm) 1312 342628 8074320 (fun o _ => o = .inl (some (.int 1))) 1278 [some (.ref 0), some (.ref 32), some (.ref 277), some (.ref 359), some (.int (Int32.ofInt 1)), none, none, none] [] h 328 2463747 := by
  refine x_aload_n (M := (M_law nm)) dL_law_1278 rfl ?_
  refine x_aload_n (M := (M_law nm)) dL_law_1279 rfl ?_
  refine x_iload (M := (M_law nm)) dL_law_1280 rfl ?_
  refine x_iconst (M := (M_law nm)) dL_law_1282 ?_
  refine x_iadd (M := (M_law nm)) dL_law_1283 ?_
  refine x_sald (M := (M_law nm)) dL_law_1284 (by decide) hx (vp_inD (by decide +kernel)) ?_
  refine x_top (M := (M_law nm)) (y := a0) ((congrArg xs (by decide +kernel : ((Int32.ofInt 1) + (Int32.ofInt 1)).toNatClampNeg = 2)).trans e2) ?_
  refine x_aload_n (M := (M_law nm)) dL_law_1285 rfl ?_
  refine x_iload (M := (M_law nm)) dL_law_1286 rfl ?_
  refine x_iconst (M := (M_law nm)) dL_law_1288 ?_
  refine x_iadd (M := (M_law nm)) dL_law_1289 ?_
  refine x_sald (M := (M_law nm)) dL_law_1290 (by decide) hx (vp_inD (by decide +kernel)) ?_
  refine x_top (M := (M_law nm)) (y := a1) ((congrArg xs (by decide +kernel : ((Int32.ofInt 1) + (Int32.ofInt 2)).toNatClampNeg = 3)).trans e3) ?_
  refine x_aload_n (M := (M_law nm)) dL_law_1291 rfl ?_
  refine x_iload (M := (M_law nm)) dL_law_1292 rfl ?_
  refine x_iconst (M := (M_law nm)) dL_law_1294 ?_
  refine x_iadd (M := (M_law nm)) dL_law_1295 ?_
  refine x_sald (M := (M_law nm)) dL_law_1296 (by decide) hx (vp_inD (by decide +kernel)) ?_
  refine x_top (M := (M_law nm)) (y := a2) ((congrArg xs (by decide +kernel : ((Int32.ofInt 1) + (Int32.ofInt 3)).toNatClampNeg = 4)).trans e4) ?_
  refine x_aload_n (M := (M_law nm)) dL_law_1297 rfl ?_
  refine y_callSW (M := (M_law nm)) (M' := M_L_locate) rfl rfl dL_law_1298 m_L_locate t_2066 t_2067 (q2285 hl c0 c1 o2286) rfl rfl (Nat.le_of_ble_eq_true rfl) (Nat.le_of_ble_eq_true rfl) (Nat.le_of_ble_eq_true rfl) (Nat.le_of_ble_eq_true rfl) (fun h2287 f2288 w2289 => ?_)
  refine x_istore (M := (M_law nm)) dL_law_1301 (Nat.le_of_ble_eq_true rfl) rfl ?_
  refine x_aload_n (M := (M_law nm)) dL_law_1303 rfl ?_
  refine x_aload_n (M := (M_law nm)) dL_law_1304 rfl ?_
  refine x_iload (M := (M_law nm)) dL_law_1305 rfl ?_
  refine x_iconst (M := (M_law nm)) dL_law_1307 ?_
  refine x_iadd (M := (M_law nm)) dL_law_1308 ?_
  refine x_sald (M := (M_law nm)) dL_law_1309 (by decide) hx (vp_inD (by decide +kernel)) ?_
  refine x_top (M := (M_law nm)) (y := a0) ((congrArg xs (by decide +kernel : ((Int32.ofInt 1) + (Int32.ofInt 1)).toNatClampNeg = 2)).trans e2) ?_
  refine x_aload_n (M := (M_law nm)) dL_law_1310 rfl ?_
  refine x_iload (M := (M_law nm)) dL_law_1311 rfl ?_
  refine x_iconst (M := (M_law nm)) dL_law_1313 ?_
  refine x_iadd (M := (M_law nm)) dL_law_1314 ?_
  refine x_sald (M := (M_law nm)) dL_law_1315 (by decide) hx (vp_inD (by decide +kernel)) ?_
  refine x_top (M := (M_law nm)) (y := a1) ((congrArg xs (by decide +kernel : ((Int32.ofInt 1) + (Int32.ofInt 2)).toNatClampNeg = 3)).trans e3) ?_
  refine x_aload_n (M := (M_law nm)) dL_law_1316 rfl ?_
  refine x_iload (M := (M_law nm)) dL_law_1317 rfl ?_
  refine x_iconst (M := (M_law nm)) dL_law_1319 ?_
  refine x_iadd (M := (M_law nm)) dL_law_1320 ?_
  refine x_sald (M := (M_law nm)) dL_law_1321 (by decide) hx (vp_inD (by decide +kernel)) ?_
  refine x_top (M := (M_law nm)) (y := a2) ((congrArg xs (by decide +kernel : ((Int32.ofInt 1) + (Int32.ofInt 3)).toNatClampNeg = 4)).trans e4) ?_
  have o2300 := (f2288 277 _ (by decide) o2299)
  refine y_callVR (M := (M_law nm)) (M' := M_X12_locate) rfl rfl dL_law_1322 m_X12_locate t_3613 t_3614 t_3615 (q2298 hl c0 c1 o2300) rfl rfl o2300 rfl (Nat.le_of_ble_eq_true rfl) (Nat.le_of_ble_eq_true rfl) (Nat.le_of_ble_eq_true rfl) (Nat.le_of_ble_eq_true rfl) (fun h2301 f2302 w2303 => ?_)
  obtain ⟨o2304, -⟩ := w2303
  refine x_istore (M := (M_law nm)) dL_law_1325 (Nat.le_of_ble_eq_true rfl) rfl ?_
  refine x_aload_n (M := (M_law nm)) dL_law_1327 rfl ?_
  refine x_callVR (M := (M_law nm)) (M' := M_X12_thrown) rfl rfl dL_law_1328 m_X12_thrown t_2797 t_2798 t_2799 (q35 hl o2304) rfl rfl o2304 rfl (Nat.le_of_ble_eq_true rfl) (Nat.le_of_ble_eq_true rfl) (Nat.le_of_ble_eq_true rfl) (Nat.le_of_ble_eq_true rfl) ?_
  refine x_iload (M := (M_law nm)) dL_law_1331 rfl ?_
  refine x_icmp_eq (M := (M_law nm)) (tgt := 1338) dL_law_1333 (by decide) (fun _ => ?_) (fun q => absurd q (by decide +kernel))
  refine x_iload (M := (M_law nm)) dL_law_1338 rfl ?_
  refine x_if_ne (M := (M_law nm)) (tgt := 1355) dL_law_1340 (by decide) (fun _ => ?_) (fun q => absurd q (by decide +kernel))
  refine x_goto (M := (M_law nm)) (tgt := 2449) dL_law_1355 (by decide) ?_
  refine x_iinc (M := (M_law nm)) dL_law_2449 rfl (Nat.le_of_ble_eq_true rfl) rfl ?_
  refine x_lvs (M := (M_law nm)) (lv' := [some (.ref 0), some (.ref 32), some (.ref 277), some (.ref 359), some (.int (Int32.ofInt 7)), some (.int (Int32.ofInt 1)), some (.int (Int32.ofInt 0)), none]) (by rw [(by decide +kernel : (Int32.ofInt 1) + Int32.ofInt 6 = (Int32.ofInt 7))] <;> rfl) ?_
  refine x_goto (M := (M_law nm)) (tgt := 33) dL_law_2452 (by decide) ?_
  refine x_iload (M := (M_law nm)) dL_law_33 rfl ?_
  refine x_aload_n (M := (M_law nm)) dL_law_35 rfl ?_
  refine x_slen (M := (M_law nm)) dL_law_36 (by decide) hx ?_
  refine x_bipush (M := (M_law nm)) dL_law_37 ?_
  refine x_isub (M := (M_law nm)) dL_law_39 ?_
  refine x_icmp_gt (M := (M_law nm)) (tgt := 2455) dL_law_40 (by decide) (fun _ => ?_) (fun q => absurd q (by decide +kernel))
  refine x_iconst (M := (M_law nm)) dL_law_2455 ?_
  exact x_zret (M := (M_law nm)) dL_law_2456 rfl (by decide) rfl (Nat.le_of_ble_eq_true rfl) (Nat.le_of_ble_eq_true rfl)
theorem lop17 {l : Launch} {E : EE} (hl : l.stackTraces = false) (nm : String) {xs : Nat → Int32} (hx : E.2.2.2.2 0 = some (7, xs)) (dg : Int32) : XX l E (M_law nm) 1312 342628 8074320 (fun o _ => o = .inl (some (.int 1))) 1278 [some (.ref 0), some (.ref 32), some (.ref 277), some (.ref 359), some (.int (Int32.ofInt 1)), none, none, none] [] (HH dg) 328 2463747 := by
  obtain ⟨a0, e2⟩ : ∃ a : Int32, xs 2 = a := ⟨_, rfl⟩
  obtain ⟨a1, e3⟩ : ∃ a : Int32, xs 3 = a := ⟨_, rfl⟩
  obtain ⟨a2, e4⟩ : ∃ a : Int32, xs 4 = a := ⟨_, rfl⟩
  obtain ⟨a3, e5⟩ : ∃ a : Int32, xs 5 = a := ⟨_, rfl⟩
  obtain ⟨a4, e6⟩ : ∃ a : Int32, xs 6 = a := ⟨_, rfl⟩
  by_cases c0 : a0.toInt < 0
  · exact lc17_0 hl nm hx e2 e3 e4 c0 (o_32 dg) (o_277b dg)
  · by_cases c1 : a0.toInt < 32
    · have n_a0 : a0.toNatClampNeg < 32 := nc_lt (by omega) (by decide)
      exact lc17_1 hl nm hx e2 e3 e4 c0 c1 (o_32 dg) (o_33 dg) (o_sh dg a0.toNatClampNeg n_a0) (o_277b dg) (oMR (dg := dg) (k := 2) rfl)
    · exact lc17_2 hl nm hx e2 e3 e4 c0 c1 (o_32 dg) (o_277b dg)
set_option maxRecDepth 10000 in
theorem q2309 {l : Launch} {E : EE} (hl : l.stackTraces = false) {h : HP} {a0 : Int32} {a1 : Int32} (c0 : a0.toInt < 0) (o2305 : ob h 32 = some (.inr (14, [.ref 33, .ref 162, .ref 166, .int (0 : Int32), .int (0 : Int32), .int (0 : Int32), .ref 167, .ref 170, .ref 173, .ref 177, .ref 193, .ref 208, .ref 222, .ref 238, .ref 252, .ref 274, .ref 275, .ref 276, .int (0 : Int32)]))) : en_C l E M_X11_hull 7 1 6 [.ref 32, .int a0, .int a1] h (pT "java/lang/IndexOutOfBoundsException" [] h (fun _ => True)) := by
  refine en_mk m_X11_hull rfl hl (Nat.le_of_ble_eq_true rfl) ?_
  refine x_aload_n (M := M_X11_hull) dX11_hull_0 rfl ?_
  refine x_iload_n (M := M_X11_hull) dX11_hull_1 rfl ?_
  exact y_callVX (M := M_X11_hull) (M' := M_X11_slotNumbered) rfl rfl dX11_hull_2 m_X11_slotNumbered t_744 t_746 s_2 (q392 hl c0) rfl rfl o2305 rfl (Nat.le_of_ble_eq_true rfl) (Nat.le_of_ble_eq_true rfl) (Nat.le_of_ble_eq_true rfl) (Nat.le_of_ble_eq_true rfl) (fun h2306 f2307 w2308 => ⟨rfl, (fr_tr f2307 (fun _ h => nomatch h) fr_rf), trivial⟩)
set_option maxRecDepth 10000 in
theorem q2314 {l : Launch} {E : EE} (hl : l.stackTraces = false) {h : HP} {a0 : Int32} {a1 : Int32} (c0 : a0.toInt < 0) (o2310 : ob h 32 = some (.inr (14, [.ref 33, .ref 162, .ref 166, .int (0 : Int32), .int (0 : Int32), .int (0 : Int32), .ref 167, .ref 170, .ref 173, .ref 177, .ref 193, .ref 208, .ref 222, .ref 238, .ref 252, .ref 274, .ref 275, .ref 276, .int (0 : Int32)]))) : en_C l E M_L_hull 8 1 6 [.ref 32, .int a0, .int a1, .ref 359] h (pF (some (.int (Int32.ofInt 1))) [] h (fun _ => True)) := by
  refine en_mkW m_L_hull rfl hl (Nat.le_of_ble_eq_true rfl) ?_
  refine x_aload_n (M := M_L_hull) dL_hull_0 rfl ?_
  refine x_iconst (M := M_L_hull) dL_hull_1 ?_
  refine x_aload_n (M := M_L_hull) dL_hull_2 rfl ?_
  refine x_iload_n (M := M_L_hull) dL_hull_3 rfl ?_
  refine x_iload_n (M := M_L_hull) dL_hull_4 rfl ?_
  refine y_callVHX (M := M_L_hull) (M' := M_X11_hull) (i9 := 4) (nx := 15) rfl dL_hull_5 m_X11_hull t_2079 t_2080 t_2081 o2310 rfl (q2309 hl c0 o2310) rfl rfl (Nat.le_of_ble_eq_true rfl) (Nat.le_of_ble_eq_true rfl) (Nat.le_of_ble_eq_true rfl) (Nat.le_of_ble_eq_true rfl) (en_hdm (k0 := 4) [] [(0, 10, 17, 13), (0, 10, 21, 63)] rfl (fun _ h => nomatch h) (by decide +kernel) (by decide) t_739 n_750 dL_hull_13) (by decide) rfl (fun h2311 f2312 w2313 => ?_)
  refine x_iconst (M := M_L_hull) dL_hull_15 ?_
  exact x_iret (M := M_L_hull) dL_hull_16 rfl ⟨rfl, (fr_tr f2312 (fun _ h => nomatch h) fr_rf), trivial⟩ (Nat.le_of_ble_eq_true rfl) (Nat.le_of_ble_eq_true rfl)
set_option maxRecDepth 10000 in
theorem q2327 {l : Launch} {E : EE} (hl : l.stackTraces = false) {h : HP} {a0 : Int32} {a1 : Int32} {dg : Int32} (c0 : a0.toInt < 0) (o2319 : ob h 277 = some (.inr (15, (RB dg)))) : en_C l E M_X12_hull 1 0 0 [.ref 277, .int a0, .int a1] h (pF (some (.int (Int32.ofInt 0))) [277] h (fun h' => ob h' 277 = some (.inr (15, ((RB dg).set 0 (.int (Int32.ofInt 1))))) ∧ True)) := by
  refine en_mk m_X12_hull rfl hl (Nat.le_of_ble_eq_true rfl) ?_
  refine x_aload_n (M := M_X12_hull) dX12_hull_0 rfl ?_
  refine x_iconst (M := M_X12_hull) dX12_hull_1 ?_
  refine y_put (M := M_X12_hull) (ci := 15) (C := RX12) (T := TX12) (N := 135) (ty := tyX12) cl15 dX12_hull_2 o2319 0 (by decide) t_2391 (Or.inl rfl) (Nat.le_of_ble_eq_true rfl) rfl (fun h2320 w2321 f2322 => ?_)
  refine x_aload_n (M := M_X12_hull) dX12_hull_5 rfl ?_
  refine x_iload_n (M := M_X12_hull) dX12_hull_6 rfl ?_
  refine x_callSR (M := M_X12_hull) (M' := M_X12_isSlot) rfl rfl dX12_hull_7 m_X12_isSlot t_2841 t_2842 (q411 hl c0) rfl rfl (Nat.le_of_ble_eq_true rfl) (Nat.le_of_ble_eq_true rfl) (Nat.le_of_ble_eq_true rfl) (Nat.le_of_ble_eq_true rfl) ?_
  refine x_if_eq (M := M_X12_hull) (tgt := 20) dX12_hull_10 (by decide) (fun _ => ?_) (fun q => absurd q (by decide +kernel))
  refine x_iconst (M := M_X12_hull) dX12_hull_20 ?_
  refine x_goto (M := M_X12_hull) (tgt := 25) dX12_hull_21 (by decide) ?_
  refine x_iconst (M := M_X12_hull) dX12_hull_25 ?_
  refine y_callVR (M := M_X12_hull) (M' := M_X12_fails) rfl rfl dX12_hull_26 m_X12_fails t_2805 t_2807 s_157 (q22 hl w2321) rfl rfl w2321 rfl (Nat.le_of_ble_eq_true rfl) (Nat.le_of_ble_eq_true rfl) (Nat.le_of_ble_eq_true rfl) (Nat.le_of_ble_eq_true rfl) (fun h2323 f2324 w2325 => ?_)
  obtain ⟨o2326, -⟩ := w2325
  refine x_if_ne (M := M_X12_hull) (tgt := 74) dX12_hull_29 (by decide) (fun _ => ?_) (fun q => absurd q (by decide +kernel))
  refine x_iconst (M := M_X12_hull) dX12_hull_74 ?_
  exact x_iret (M := M_X12_hull) dX12_hull_75 rfl ⟨rfl, (fr_tr f2324 (by decide) (fr_tr f2322 (by decide) fr_rf)), ⟨o2326, trivial⟩⟩ (Nat.le_of_ble_eq_true rfl) (Nat.le_of_ble_eq_true rfl)
set_option maxRecDepth 10000 in
theorem lc18_0 {l : Launch} {E : EE} (hl : l.stackTraces = false) (nm : String) {xs : Nat → Int32} (hx : E.2.2.2.2 0 = some (7, xs)) {h : HP} {a0 : Int32} {a1 : Int32} {dg : Int32} (e2 : xs 2 = a0) (e3 : xs 3 = a1) (c0 : a0.toInt < 0) (o2315 : ob h 32 = some (.inr (14, [.ref 33, .ref 162, .ref 166, .int (0 : Int32), .int (0 : Int32), .int (0 : Int32), .ref 167, .ref 170, .ref 173, .ref 177, .ref 193, .ref 208, .ref 222, .ref 238, .ref 252, .ref 274, .ref 275, .ref 276, .int (0 : Int32)]))) (o2328 : ob h 277 = some (.inr (15, (RB dg)))) : XX l E (M_law nm) 1312 342628 8074320 (fun o _ => o = .inl (some (.int 1))) 1358 [some (.ref 0), some (.ref 32), some (.ref 277), some (.ref 359), some (.int (Int32.ofInt 1)), none, none, none] [] h 328 2463747 := by
  refine x_aload_n (M := (M_law nm)) dL_law_1358 rfl ?_
  refine x_aload_n (M := (M_law nm)) dL_law_1359 rfl ?_
  refine x_iload (M := (M_law nm)) dL_law_1360 rfl ?_
  refine x_iconst (M := (M_law nm)) dL_law_1362 ?_
  refine x_iadd (M := (M_law nm)) dL_law_1363 ?_
  refine x_sald (M := (M_law nm)) dL_law_1364 (by decide) hx (vp_inD (by decide +kernel)) ?_
  refine x_top (M := (M_law nm)) (y := a0) ((congrArg xs (by decide +kernel : ((Int32.ofInt 1) + (Int32.ofInt 1)).toNatClampNeg = 2)).trans e2) ?_
  refine x_aload_n (M := (M_law nm)) dL_law_1365 rfl ?_
  refine x_iload (M := (M_law nm)) dL_law_1366 rfl ?_
  refine x_iconst (M := (M_law nm)) dL_law_1368 ?_
  refine x_iadd (M := (M_law nm)) dL_law_1369 ?_
  refine x_sald (M := (M_law nm)) dL_law_1370 (by decide) hx (vp_inD (by decide +kernel)) ?_
  refine x_top (M := (M_law nm)) (y := a1) ((congrArg xs (by decide +kernel : ((Int32.ofInt 1) + (Int32.ofInt 2)).toNatClampNeg = 3)).trans e3) ?_
  refine x_aload_n (M := (M_law nm)) dL_law_1371 rfl ?_
  refine y_callSW (M := (M_law nm)) (M' := M_L_hull) rfl rfl dL_law_1372 m_L_hull t_2076 t_2077 (q2314 hl c0 o2315) rfl rfl (Nat.le_of_ble_eq_true rfl) (Nat.le_of_ble_eq_true rfl) (Nat.le_of_ble_eq_true rfl) (Nat.le_of_ble_eq_true rfl) (fun h2316 f2317 w2318 => ?_)
  refine x_istore (M := (M_law nm)) dL_law_1375 (Nat.le_of_ble_eq_true rfl) rfl ?_
  refine x_aload_n (M := (M_law nm)) dL_law_1377 rfl ?_
  refine x_aload_n (M := (M_law nm)) dL_law_1378 rfl ?_
  refine x_iload (M := (M_law nm)) dL_law_1379 rfl ?_
  refine x_iconst (M := (M_law nm)) dL_law_1381 ?_
  refine x_iadd (M := (M_law nm)) dL_law_1382 ?_
  refine x_sald (M := (M_law nm)) dL_law_1383 (by decide) hx (vp_inD (by decide +kernel)) ?_
  refine x_top (M := (M_law nm)) (y := a0) ((congrArg xs (by decide +kernel : ((Int32.ofInt 1) + (Int32.ofInt 1)).toNatClampNeg = 2)).trans e2) ?_
  refine x_aload_n (M := (M_law nm)) dL_law_1384 rfl ?_
  refine x_iload (M := (M_law nm)) dL_law_1385 rfl ?_
  refine x_iconst (M := (M_law nm)) dL_law_1387 ?_
  refine x_iadd (M := (M_law nm)) dL_law_1388 ?_
  refine x_sald (M := (M_law nm)) dL_law_1389 (by decide) hx (vp_inD (by decide +kernel)) ?_
  refine x_top (M := (M_law nm)) (y := a1) ((congrArg xs (by decide +kernel : ((Int32.ofInt 1) + (Int32.ofInt 2)).toNatClampNeg = 3)).trans e3) ?_
  have o2329 := (f2317 277 _ (by decide) o2328)
  refine y_callVR (M := (M_law nm)) (M' := M_X12_hull) rfl rfl dL_law_1390 m_X12_hull t_3617 t_3618 t_3619 (q2327 hl c0 o2329) rfl rfl o2329 rfl (Nat.le_of_ble_eq_true rfl) (Nat.le_of_ble_eq_true rfl) (Nat.le_of_ble_eq_true rfl) (Nat.le_of_ble_eq_true rfl) (fun h2330 f2331 w2332 => ?_)
  obtain ⟨o2333, -⟩ := w2332
  refine x_istore (M := (M_law nm)) dL_law_1393 (Nat.le_of_ble_eq_true rfl) rfl ?_
  refine x_aload_n (M := (M_law nm)) dL_law_1395 rfl ?_
  refine x_callVR (M := (M_law nm)) (M' := M_X12_thrown) rfl rfl dL_law_1396 m_X12_thrown t_2797 t_2798 t_2799 (q35 hl o2333) rfl rfl o2333 rfl (Nat.le_of_ble_eq_true rfl) (Nat.le_of_ble_eq_true rfl) (Nat.le_of_ble_eq_true rfl) (Nat.le_of_ble_eq_true rfl) ?_
  refine x_iload (M := (M_law nm)) dL_law_1399 rfl ?_
  refine x_icmp_eq (M := (M_law nm)) (tgt := 1406) dL_law_1401 (by decide) (fun _ => ?_) (fun q => absurd q (by decide +kernel))
  refine x_iload (M := (M_law nm)) dL_law_1406 rfl ?_
  refine x_if_ne (M := (M_law nm)) (tgt := 1423) dL_law_1408 (by decide) (fun _ => ?_) (fun q => absurd q (by decide +kernel))
  refine x_goto (M := (M_law nm)) (tgt := 2449) dL_law_1423 (by decide) ?_
  refine x_iinc (M := (M_law nm)) dL_law_2449 rfl (Nat.le_of_ble_eq_true rfl) rfl ?_
  refine x_lvs (M := (M_law nm)) (lv' := [some (.ref 0), some (.ref 32), some (.ref 277), some (.ref 359), some (.int (Int32.ofInt 7)), some (.int (Int32.ofInt 1)), some (.int (Int32.ofInt 0)), none]) (by rw [(by decide +kernel : (Int32.ofInt 1) + Int32.ofInt 6 = (Int32.ofInt 7))] <;> rfl) ?_
  refine x_goto (M := (M_law nm)) (tgt := 33) dL_law_2452 (by decide) ?_
  refine x_iload (M := (M_law nm)) dL_law_33 rfl ?_
  refine x_aload_n (M := (M_law nm)) dL_law_35 rfl ?_
  refine x_slen (M := (M_law nm)) dL_law_36 (by decide) hx ?_
  refine x_bipush (M := (M_law nm)) dL_law_37 ?_
  refine x_isub (M := (M_law nm)) dL_law_39 ?_
  refine x_icmp_gt (M := (M_law nm)) (tgt := 2455) dL_law_40 (by decide) (fun _ => ?_) (fun q => absurd q (by decide +kernel))
  refine x_iconst (M := (M_law nm)) dL_law_2455 ?_
  exact x_zret (M := (M_law nm)) dL_law_2456 rfl (by decide) rfl (Nat.le_of_ble_eq_true rfl) (Nat.le_of_ble_eq_true rfl)
set_option maxRecDepth 10000 in
theorem q2341 {l : Launch} {E : EE} (hl : l.stackTraces = false) {h : HP} {a0 : Int32} {a1 : Int32} (c0 : ¬ (a0.toInt < 0)) (c1 : a0.toInt < 32) (c2 : a1.toInt < 0) (o2336 : ob h 32 = some (.inr (14, [.ref 33, .ref 162, .ref 166, .int (0 : Int32), .int (0 : Int32), .int (0 : Int32), .ref 167, .ref 170, .ref 173, .ref 177, .ref 193, .ref 208, .ref 222, .ref 238, .ref 252, .ref 274, .ref 275, .ref 276, .int (0 : Int32)]))) (o2337 : ob h 33 = some (.inl (4, 32, .inr (.inr (.inr (.inr (shf 1 32))))))) : en_C l E M_X11_hull 7 1 6 [.ref 32, .int a0, .int a1] h (pT "java/lang/IndexOutOfBoundsException" [] h (fun _ => True)) := by
  refine en_mk m_X11_hull rfl hl (Nat.le_of_ble_eq_true rfl) ?_
  refine x_aload_n (M := M_X11_hull) dX11_hull_0 rfl ?_
  refine x_iload_n (M := M_X11_hull) dX11_hull_1 rfl ?_
  refine x_callVR (M := M_X11_hull) (M' := M_X11_slotNumbered) rfl rfl dX11_hull_2 m_X11_slotNumbered t_744 t_746 s_2 (q425 hl c0 c1 o2336 o2337) rfl rfl o2336 rfl (Nat.le_of_ble_eq_true rfl) (Nat.le_of_ble_eq_true rfl) (Nat.le_of_ble_eq_true rfl) (Nat.le_of_ble_eq_true rfl) ?_
  refine x_astore_n (M := M_X11_hull) dX11_hull_5 (Nat.le_of_ble_eq_true rfl) rfl ?_
  refine x_aload_n (M := M_X11_hull) dX11_hull_6 rfl ?_
  refine x_iload_n (M := M_X11_hull) dX11_hull_7 rfl ?_
  exact y_callVX (M := M_X11_hull) (M' := M_X11_slotNumbered) rfl rfl dX11_hull_8 m_X11_slotNumbered t_744 t_746 s_2 (q1465 hl c2) rfl rfl o2336 rfl (Nat.le_of_ble_eq_true rfl) (Nat.le_of_ble_eq_true rfl) (Nat.le_of_ble_eq_true rfl) (Nat.le_of_ble_eq_true rfl) (fun h2338 f2339 w2340 => ⟨rfl, (fr_tr f2339 (fun _ h => nomatch h) fr_rf), trivial⟩)
set_option maxRecDepth 10000 in
theorem q2347 {l : Launch} {E : EE} (hl : l.stackTraces = false) {h : HP} {a0 : Int32} {a1 : Int32} (c0 : ¬ (a0.toInt < 0)) (c1 : a0.toInt < 32) (c2 : a1.toInt < 0) (o2342 : ob h 32 = some (.inr (14, [.ref 33, .ref 162, .ref 166, .int (0 : Int32), .int (0 : Int32), .int (0 : Int32), .ref 167, .ref 170, .ref 173, .ref 177, .ref 193, .ref 208, .ref 222, .ref 238, .ref 252, .ref 274, .ref 275, .ref 276, .int (0 : Int32)]))) (o2343 : ob h 33 = some (.inl (4, 32, .inr (.inr (.inr (.inr (shf 1 32))))))) : en_C l E M_L_hull 8 1 6 [.ref 32, .int a0, .int a1, .ref 359] h (pF (some (.int (Int32.ofInt 1))) [] h (fun _ => True)) := by
  refine en_mkW m_L_hull rfl hl (Nat.le_of_ble_eq_true rfl) ?_
  refine x_aload_n (M := M_L_hull) dL_hull_0 rfl ?_
  refine x_iconst (M := M_L_hull) dL_hull_1 ?_
  refine x_aload_n (M := M_L_hull) dL_hull_2 rfl ?_
  refine x_iload_n (M := M_L_hull) dL_hull_3 rfl ?_
  refine x_iload_n (M := M_L_hull) dL_hull_4 rfl ?_
  refine y_callVHX (M := M_L_hull) (M' := M_X11_hull) (i9 := 4) (nx := 15) rfl dL_hull_5 m_X11_hull t_2079 t_2080 t_2081 o2342 rfl (q2341 hl c0 c1 c2 o2342 o2343) rfl rfl (Nat.le_of_ble_eq_true rfl) (Nat.le_of_ble_eq_true rfl) (Nat.le_of_ble_eq_true rfl) (Nat.le_of_ble_eq_true rfl) (en_hdm (k0 := 4) [] [(0, 10, 17, 13), (0, 10, 21, 63)] rfl (fun _ h => nomatch h) (by decide +kernel) (by decide) t_739 n_750 dL_hull_13) (by decide) rfl (fun h2344 f2345 w2346 => ?_)
  refine x_iconst (M := M_L_hull) dL_hull_15 ?_
  exact x_iret (M := M_L_hull) dL_hull_16 rfl ⟨rfl, (fr_tr f2345 (fun _ h => nomatch h) fr_rf), trivial⟩ (Nat.le_of_ble_eq_true rfl) (Nat.le_of_ble_eq_true rfl)
set_option maxRecDepth 10000 in
theorem q2361 {l : Launch} {E : EE} (hl : l.stackTraces = false) {h : HP} {a0 : Int32} {a1 : Int32} {dg : Int32} (c0 : ¬ (a0.toInt < 0)) (c1 : a0.toInt < 32) (c2 : a1.toInt < 0) (o2353 : ob h 277 = some (.inr (15, (RB dg)))) : en_C l E M_X12_hull 1 0 0 [.ref 277, .int a0, .int a1] h (pF (some (.int (Int32.ofInt 0))) [277] h (fun h' => ob h' 277 = some (.inr (15, ((RB dg).set 0 (.int (Int32.ofInt 1))))) ∧ True)) := by
  refine en_mk m_X12_hull rfl hl (Nat.le_of_ble_eq_true rfl) ?_
  refine x_aload_n (M := M_X12_hull) dX12_hull_0 rfl ?_
  refine x_iconst (M := M_X12_hull) dX12_hull_1 ?_
  refine y_put (M := M_X12_hull) (ci := 15) (C := RX12) (T := TX12) (N := 135) (ty := tyX12) cl15 dX12_hull_2 o2353 0 (by decide) t_2391 (Or.inl rfl) (Nat.le_of_ble_eq_true rfl) rfl (fun h2354 w2355 f2356 => ?_)
  refine x_aload_n (M := M_X12_hull) dX12_hull_5 rfl ?_
  refine x_iload_n (M := M_X12_hull) dX12_hull_6 rfl ?_
  refine x_callSR (M := M_X12_hull) (M' := M_X12_isSlot) rfl rfl dX12_hull_7 m_X12_isSlot t_2841 t_2842 (q447 hl c0 c1) rfl rfl (Nat.le_of_ble_eq_true rfl) (Nat.le_of_ble_eq_true rfl) (Nat.le_of_ble_eq_true rfl) (Nat.le_of_ble_eq_true rfl) ?_
  refine x_if_eq (M := M_X12_hull) (tgt := 20) dX12_hull_10 (by decide) (fun q => absurd q (by decide +kernel)) (fun _ => ?_)
  refine x_iload_n (M := M_X12_hull) dX12_hull_13 rfl ?_
  refine x_callSR (M := M_X12_hull) (M' := M_X12_isSlot) rfl rfl dX12_hull_14 m_X12_isSlot t_2841 t_2842 (q1485 hl c2) rfl rfl (Nat.le_of_ble_eq_true rfl) (Nat.le_of_ble_eq_true rfl) (Nat.le_of_ble_eq_true rfl) (Nat.le_of_ble_eq_true rfl) ?_
  refine x_if_ne (M := M_X12_hull) (tgt := 24) dX12_hull_17 (by decide) (fun q => absurd q (by decide +kernel)) (fun _ => ?_)
  refine x_iconst (M := M_X12_hull) dX12_hull_20 ?_
  refine x_goto (M := M_X12_hull) (tgt := 25) dX12_hull_21 (by decide) ?_
  refine x_iconst (M := M_X12_hull) dX12_hull_25 ?_
  refine y_callVR (M := M_X12_hull) (M' := M_X12_fails) rfl rfl dX12_hull_26 m_X12_fails t_2805 t_2807 s_157 (q22 hl w2355) rfl rfl w2355 rfl (Nat.le_of_ble_eq_true rfl) (Nat.le_of_ble_eq_true rfl) (Nat.le_of_ble_eq_true rfl) (Nat.le_of_ble_eq_true rfl) (fun h2357 f2358 w2359 => ?_)
  obtain ⟨o2360, -⟩ := w2359
  refine x_if_ne (M := M_X12_hull) (tgt := 74) dX12_hull_29 (by decide) (fun _ => ?_) (fun q => absurd q (by decide +kernel))
  refine x_iconst (M := M_X12_hull) dX12_hull_74 ?_
  exact x_iret (M := M_X12_hull) dX12_hull_75 rfl ⟨rfl, (fr_tr f2358 (by decide) (fr_tr f2356 (by decide) fr_rf)), ⟨o2360, trivial⟩⟩ (Nat.le_of_ble_eq_true rfl) (Nat.le_of_ble_eq_true rfl)
set_option maxRecDepth 10000 in
theorem lc18_1 {l : Launch} {E : EE} (hl : l.stackTraces = false) (nm : String) {xs : Nat → Int32} (hx : E.2.2.2.2 0 = some (7, xs)) {h : HP} {a0 : Int32} {a1 : Int32} {dg : Int32} (e2 : xs 2 = a0) (e3 : xs 3 = a1) (c0 : ¬ (a0.toInt < 0)) (c1 : a0.toInt < 32) (c2 : a1.toInt < 0) (o2348 : ob h 32 = some (.inr (14, [.ref 33, .ref 162, .ref 166, .int (0 : Int32), .int (0 : Int32), .int (0 : Int32), .ref 167, .ref 170, .ref 173, .ref 177, .ref 193, .ref 208, .ref 222, .ref 238, .ref 252, .ref 274, .ref 275, .ref 276, .int (0 : Int32)]))) (o2349 : ob h 33 = some (.inl (4, 32, .inr (.inr (.inr (.inr (shf 1 32))))))) (o2362 : ob h 277 = some (.inr (15, (RB dg)))) : XX l E (M_law nm) 1312 342628 8074320 (fun o _ => o = .inl (some (.int 1))) 1358 [some (.ref 0), some (.ref 32), some (.ref 277), some (.ref 359), some (.int (Int32.ofInt 1)), none, none, none] [] h 328 2463747 := by
  refine x_aload_n (M := (M_law nm)) dL_law_1358 rfl ?_
  refine x_aload_n (M := (M_law nm)) dL_law_1359 rfl ?_
  refine x_iload (M := (M_law nm)) dL_law_1360 rfl ?_
  refine x_iconst (M := (M_law nm)) dL_law_1362 ?_
  refine x_iadd (M := (M_law nm)) dL_law_1363 ?_
  refine x_sald (M := (M_law nm)) dL_law_1364 (by decide) hx (vp_inD (by decide +kernel)) ?_
  refine x_top (M := (M_law nm)) (y := a0) ((congrArg xs (by decide +kernel : ((Int32.ofInt 1) + (Int32.ofInt 1)).toNatClampNeg = 2)).trans e2) ?_
  refine x_aload_n (M := (M_law nm)) dL_law_1365 rfl ?_
  refine x_iload (M := (M_law nm)) dL_law_1366 rfl ?_
  refine x_iconst (M := (M_law nm)) dL_law_1368 ?_
  refine x_iadd (M := (M_law nm)) dL_law_1369 ?_
  refine x_sald (M := (M_law nm)) dL_law_1370 (by decide) hx (vp_inD (by decide +kernel)) ?_
  refine x_top (M := (M_law nm)) (y := a1) ((congrArg xs (by decide +kernel : ((Int32.ofInt 1) + (Int32.ofInt 2)).toNatClampNeg = 3)).trans e3) ?_
  refine x_aload_n (M := (M_law nm)) dL_law_1371 rfl ?_
  refine y_callSW (M := (M_law nm)) (M' := M_L_hull) rfl rfl dL_law_1372 m_L_hull t_2076 t_2077 (q2347 hl c0 c1 c2 o2348 o2349) rfl rfl (Nat.le_of_ble_eq_true rfl) (Nat.le_of_ble_eq_true rfl) (Nat.le_of_ble_eq_true rfl) (Nat.le_of_ble_eq_true rfl) (fun h2350 f2351 w2352 => ?_)
  refine x_istore (M := (M_law nm)) dL_law_1375 (Nat.le_of_ble_eq_true rfl) rfl ?_
  refine x_aload_n (M := (M_law nm)) dL_law_1377 rfl ?_
  refine x_aload_n (M := (M_law nm)) dL_law_1378 rfl ?_
  refine x_iload (M := (M_law nm)) dL_law_1379 rfl ?_
  refine x_iconst (M := (M_law nm)) dL_law_1381 ?_
  refine x_iadd (M := (M_law nm)) dL_law_1382 ?_
  refine x_sald (M := (M_law nm)) dL_law_1383 (by decide) hx (vp_inD (by decide +kernel)) ?_
  refine x_top (M := (M_law nm)) (y := a0) ((congrArg xs (by decide +kernel : ((Int32.ofInt 1) + (Int32.ofInt 1)).toNatClampNeg = 2)).trans e2) ?_
  refine x_aload_n (M := (M_law nm)) dL_law_1384 rfl ?_
  refine x_iload (M := (M_law nm)) dL_law_1385 rfl ?_
  refine x_iconst (M := (M_law nm)) dL_law_1387 ?_
  refine x_iadd (M := (M_law nm)) dL_law_1388 ?_
  refine x_sald (M := (M_law nm)) dL_law_1389 (by decide) hx (vp_inD (by decide +kernel)) ?_
  refine x_top (M := (M_law nm)) (y := a1) ((congrArg xs (by decide +kernel : ((Int32.ofInt 1) + (Int32.ofInt 2)).toNatClampNeg = 3)).trans e3) ?_
  have o2363 := (f2351 277 _ (by decide) o2362)
  refine y_callVR (M := (M_law nm)) (M' := M_X12_hull) rfl rfl dL_law_1390 m_X12_hull t_3617 t_3618 t_3619 (q2361 hl c0 c1 c2 o2363) rfl rfl o2363 rfl (Nat.le_of_ble_eq_true rfl) (Nat.le_of_ble_eq_true rfl) (Nat.le_of_ble_eq_true rfl) (Nat.le_of_ble_eq_true rfl) (fun h2364 f2365 w2366 => ?_)
  obtain ⟨o2367, -⟩ := w2366
  refine x_istore (M := (M_law nm)) dL_law_1393 (Nat.le_of_ble_eq_true rfl) rfl ?_
  refine x_aload_n (M := (M_law nm)) dL_law_1395 rfl ?_
  refine x_callVR (M := (M_law nm)) (M' := M_X12_thrown) rfl rfl dL_law_1396 m_X12_thrown t_2797 t_2798 t_2799 (q35 hl o2367) rfl rfl o2367 rfl (Nat.le_of_ble_eq_true rfl) (Nat.le_of_ble_eq_true rfl) (Nat.le_of_ble_eq_true rfl) (Nat.le_of_ble_eq_true rfl) ?_
  refine x_iload (M := (M_law nm)) dL_law_1399 rfl ?_
  refine x_icmp_eq (M := (M_law nm)) (tgt := 1406) dL_law_1401 (by decide) (fun _ => ?_) (fun q => absurd q (by decide +kernel))
  refine x_iload (M := (M_law nm)) dL_law_1406 rfl ?_
  refine x_if_ne (M := (M_law nm)) (tgt := 1423) dL_law_1408 (by decide) (fun _ => ?_) (fun q => absurd q (by decide +kernel))
  refine x_goto (M := (M_law nm)) (tgt := 2449) dL_law_1423 (by decide) ?_
  refine x_iinc (M := (M_law nm)) dL_law_2449 rfl (Nat.le_of_ble_eq_true rfl) rfl ?_
  refine x_lvs (M := (M_law nm)) (lv' := [some (.ref 0), some (.ref 32), some (.ref 277), some (.ref 359), some (.int (Int32.ofInt 7)), some (.int (Int32.ofInt 1)), some (.int (Int32.ofInt 0)), none]) (by rw [(by decide +kernel : (Int32.ofInt 1) + Int32.ofInt 6 = (Int32.ofInt 7))] <;> rfl) ?_
  refine x_goto (M := (M_law nm)) (tgt := 33) dL_law_2452 (by decide) ?_
  refine x_iload (M := (M_law nm)) dL_law_33 rfl ?_
  refine x_aload_n (M := (M_law nm)) dL_law_35 rfl ?_
  refine x_slen (M := (M_law nm)) dL_law_36 (by decide) hx ?_
  refine x_bipush (M := (M_law nm)) dL_law_37 ?_
  refine x_isub (M := (M_law nm)) dL_law_39 ?_
  refine x_icmp_gt (M := (M_law nm)) (tgt := 2455) dL_law_40 (by decide) (fun _ => ?_) (fun q => absurd q (by decide +kernel))
  refine x_iconst (M := (M_law nm)) dL_law_2455 ?_
  exact x_zret (M := (M_law nm)) dL_law_2456 rfl (by decide) rfl (Nat.le_of_ble_eq_true rfl) (Nat.le_of_ble_eq_true rfl)
set_option maxRecDepth 10000 in
theorem q2376 {l : Launch} {E : EE} (hl : l.stackTraces = false) {h : HP} {a0 : Int32} {a1 : Int32} (c0 : ¬ (a0.toInt < 0)) (c1 : a0.toInt < 32) (c2 : ¬ (a1.toInt < 0)) (c3 : a1.toInt < 32) (o2370 : ob h 32 = some (.inr (14, [.ref 33, .ref 162, .ref 166, .int (0 : Int32), .int (0 : Int32), .int (0 : Int32), .ref 167, .ref 170, .ref 173, .ref 177, .ref 193, .ref 208, .ref 222, .ref 238, .ref 252, .ref 274, .ref 275, .ref 276, .int (0 : Int32)]))) (o2371 : ob h 33 = some (.inl (4, 32, .inr (.inr (.inr (.inr (shf 1 32))))))) (o2372 : ob h (34 + 4 * a0.toNatClampNeg) = some (.inr (9, [.ref (35 + 4 * a0.toNatClampNeg), .ref (36 + 4 * a0.toNatClampNeg), .ref (37 + 4 * a0.toNatClampNeg), .int (0 : Int32), .int (0 : Int32)]))) : en_C l E M_X11_hull 7 1 6 [.ref 32, .int a0, .int a1] h (pT "java/lang/IllegalStateException" [] h (fun _ => True)) := by
  have n_a0 : a0.toNatClampNeg < 32 := nc_lt (by omega) (by decide)
  refine en_mk m_X11_hull rfl hl (Nat.le_of_ble_eq_true rfl) ?_
  refine x_aload_n (M := M_X11_hull) dX11_hull_0 rfl ?_
  refine x_iload_n (M := M_X11_hull) dX11_hull_1 rfl ?_
  refine x_callVR (M := M_X11_hull) (M' := M_X11_slotNumbered) rfl rfl dX11_hull_2 m_X11_slotNumbered t_744 t_746 s_2 (q425 hl c0 c1 o2370 o2371) rfl rfl o2370 rfl (Nat.le_of_ble_eq_true rfl) (Nat.le_of_ble_eq_true rfl) (Nat.le_of_ble_eq_true rfl) (Nat.le_of_ble_eq_true rfl) ?_
  refine x_astore_n (M := M_X11_hull) dX11_hull_5 (Nat.le_of_ble_eq_true rfl) rfl ?_
  refine x_aload_n (M := M_X11_hull) dX11_hull_6 rfl ?_
  refine x_iload_n (M := M_X11_hull) dX11_hull_7 rfl ?_
  refine x_callVR (M := M_X11_hull) (M' := M_X11_slotNumbered) rfl rfl dX11_hull_8 m_X11_slotNumbered t_744 t_746 s_2 (q1503 hl c2 c3 o2370 o2371) rfl rfl o2370 rfl (Nat.le_of_ble_eq_true rfl) (Nat.le_of_ble_eq_true rfl) (Nat.le_of_ble_eq_true rfl) (Nat.le_of_ble_eq_true rfl) ?_
  refine x_astore (M := M_X11_hull) dX11_hull_11 (Nat.le_of_ble_eq_true rfl) rfl ?_
  refine x_aload_n (M := M_X11_hull) dX11_hull_13 rfl ?_
  exact y_callSX (M := M_X11_hull) (M' := M_X11_mustBeThere) rfl rfl dX11_hull_14 m_X11_mustBeThere t_1047 t_1048 (q810 hl c0 c1 o2372) rfl rfl (Nat.le_of_ble_eq_true rfl) (Nat.le_of_ble_eq_true rfl) (Nat.le_of_ble_eq_true rfl) (Nat.le_of_ble_eq_true rfl) (fun h2373 f2374 w2375 => ⟨rfl, (fr_tr f2374 (fun _ h => nomatch h) fr_rf), trivial⟩)
set_option maxRecDepth 10000 in
theorem q2383 {l : Launch} {E : EE} (hl : l.stackTraces = false) {h : HP} {a0 : Int32} {a1 : Int32} (c0 : ¬ (a0.toInt < 0)) (c1 : a0.toInt < 32) (c2 : ¬ (a1.toInt < 0)) (c3 : a1.toInt < 32) (o2377 : ob h 32 = some (.inr (14, [.ref 33, .ref 162, .ref 166, .int (0 : Int32), .int (0 : Int32), .int (0 : Int32), .ref 167, .ref 170, .ref 173, .ref 177, .ref 193, .ref 208, .ref 222, .ref 238, .ref 252, .ref 274, .ref 275, .ref 276, .int (0 : Int32)]))) (o2378 : ob h 33 = some (.inl (4, 32, .inr (.inr (.inr (.inr (shf 1 32))))))) (o2379 : ob h (34 + 4 * a0.toNatClampNeg) = some (.inr (9, [.ref (35 + 4 * a0.toNatClampNeg), .ref (36 + 4 * a0.toNatClampNeg), .ref (37 + 4 * a0.toNatClampNeg), .int (0 : Int32), .int (0 : Int32)]))) : en_C l E M_L_hull 8 1 6 [.ref 32, .int a0, .int a1, .ref 359] h (pF (some (.int (Int32.ofInt 2))) [] h (fun _ => True)) := by
  have n_a0 : a0.toNatClampNeg < 32 := nc_lt (by omega) (by decide)
  refine en_mkW m_L_hull rfl hl (Nat.le_of_ble_eq_true rfl) ?_
  refine x_aload_n (M := M_L_hull) dL_hull_0 rfl ?_
  refine x_iconst (M := M_L_hull) dL_hull_1 ?_
  refine x_aload_n (M := M_L_hull) dL_hull_2 rfl ?_
  refine x_iload_n (M := M_L_hull) dL_hull_3 rfl ?_
  refine x_iload_n (M := M_L_hull) dL_hull_4 rfl ?_
  refine y_callVHX (M := M_L_hull) (M' := M_X11_hull) (i9 := 4) (nx := 19) rfl dL_hull_5 m_X11_hull t_2079 t_2080 t_2081 o2377 rfl (q2376 hl c0 c1 c2 c3 o2377 o2378 o2379) rfl rfl (Nat.le_of_ble_eq_true rfl) (Nat.le_of_ble_eq_true rfl) (Nat.le_of_ble_eq_true rfl) (Nat.le_of_ble_eq_true rfl) (en_hdm (k0 := 4) [(0, 10, 13, 24)] [(0, 10, 21, 63)] rfl (List.forall_mem_cons.mpr ⟨⟨by decide, "java/lang/IndexOutOfBoundsException", t_739, by decide +kernel, by decide +kernel, by decide +kernel⟩, (fun _ h => nomatch h)⟩) (by decide +kernel) (by decide) t_637 n_645 dL_hull_17) (by decide) rfl (fun h2380 f2381 w2382 => ?_)
  refine x_iconst (M := M_L_hull) dL_hull_19 ?_
  exact x_iret (M := M_L_hull) dL_hull_20 rfl ⟨rfl, (fr_tr f2381 (fun _ h => nomatch h) fr_rf), trivial⟩ (Nat.le_of_ble_eq_true rfl) (Nat.le_of_ble_eq_true rfl)
set_option maxRecDepth 10000 in
theorem q2404 {l : Launch} {E : EE} (hl : l.stackTraces = false) {h : HP} {a0 : Int32} {a1 : Int32} {dg : Int32} (c0 : ¬ (a0.toInt < 0)) (c1 : a0.toInt < 32) (c2 : ¬ (a1.toInt < 0)) (c3 : a1.toInt < 32) (o2390 : ob h 277 = some (.inr (15, (RB dg)))) (o2398 : ob h 280 = some (.inl (0, 33, .inl (fun _ => 0)))) : en_C l E M_X12_hull 1 0 0 [.ref 277, .int a0, .int a1] h (pF (some (.int (Int32.ofInt 0))) [277] h (fun h' => ob h' 277 = some (.inr (15, ((RB dg).set 0 (.int (Int32.ofInt 2))))) ∧ True)) := by
  refine en_mk m_X12_hull rfl hl (Nat.le_of_ble_eq_true rfl) ?_
  refine x_aload_n (M := M_X12_hull) dX12_hull_0 rfl ?_
  refine x_iconst (M := M_X12_hull) dX12_hull_1 ?_
  refine y_put (M := M_X12_hull) (ci := 15) (C := RX12) (T := TX12) (N := 135) (ty := tyX12) cl15 dX12_hull_2 o2390 0 (by decide) t_2391 (Or.inl rfl) (Nat.le_of_ble_eq_true rfl) rfl (fun h2391 w2392 f2393 => ?_)
  refine x_aload_n (M := M_X12_hull) dX12_hull_5 rfl ?_
  refine x_iload_n (M := M_X12_hull) dX12_hull_6 rfl ?_
  refine x_callSR (M := M_X12_hull) (M' := M_X12_isSlot) rfl rfl dX12_hull_7 m_X12_isSlot t_2841 t_2842 (q447 hl c0 c1) rfl rfl (Nat.le_of_ble_eq_true rfl) (Nat.le_of_ble_eq_true rfl) (Nat.le_of_ble_eq_true rfl) (Nat.le_of_ble_eq_true rfl) ?_
  refine x_if_eq (M := M_X12_hull) (tgt := 20) dX12_hull_10 (by decide) (fun q => absurd q (by decide +kernel)) (fun _ => ?_)
  refine x_iload_n (M := M_X12_hull) dX12_hull_13 rfl ?_
  refine x_callSR (M := M_X12_hull) (M' := M_X12_isSlot) rfl rfl dX12_hull_14 m_X12_isSlot t_2841 t_2842 (q1536 hl c2 c3) rfl rfl (Nat.le_of_ble_eq_true rfl) (Nat.le_of_ble_eq_true rfl) (Nat.le_of_ble_eq_true rfl) (Nat.le_of_ble_eq_true rfl) ?_
  refine x_if_ne (M := M_X12_hull) (tgt := 24) dX12_hull_17 (by decide) (fun _ => ?_) (fun q => absurd q (by decide +kernel))
  refine x_iconst (M := M_X12_hull) dX12_hull_24 ?_
  refine x_iconst (M := M_X12_hull) dX12_hull_25 ?_
  refine y_callVR (M := M_X12_hull) (M' := M_X12_fails) rfl rfl dX12_hull_26 m_X12_fails t_2805 t_2807 s_157 (q241 hl w2392) rfl rfl w2392 rfl (Nat.le_of_ble_eq_true rfl) (Nat.le_of_ble_eq_true rfl) (Nat.le_of_ble_eq_true rfl) (Nat.le_of_ble_eq_true rfl) (fun h2394 f2395 w2396 => ?_)
  obtain ⟨o2397, -⟩ := w2396
  refine x_if_ne (M := M_X12_hull) (tgt := 74) dX12_hull_29 (by decide) (fun q => absurd q (by decide +kernel)) (fun _ => ?_)
  refine x_aload_n (M := M_X12_hull) dX12_hull_32 rfl ?_
  refine x_aload_n (M := M_X12_hull) dX12_hull_33 rfl ?_
  refine x_iload_n (M := M_X12_hull) dX12_hull_34 rfl ?_
  have o2399 := (f2395 280 _ (by decide) (f2393 280 _ (by decide) o2398))
  refine x_callVR (M := M_X12_hull) (M' := M_X12_has) rfl rfl dX12_hull_35 m_X12_has t_3033 t_3035 s_197 (q839 hl c0 c1 o2397 o2399) rfl rfl o2397 rfl (Nat.le_of_ble_eq_true rfl) (Nat.le_of_ble_eq_true rfl) (Nat.le_of_ble_eq_true rfl) (Nat.le_of_ble_eq_true rfl) ?_
  refine x_if_ne (M := M_X12_hull) (tgt := 45) dX12_hull_38 (by decide) (fun q => absurd q (by decide +kernel)) (fun _ => ?_)
  refine x_iconst (M := M_X12_hull) dX12_hull_41 ?_
  refine x_goto (M := M_X12_hull) (tgt := 46) dX12_hull_42 (by decide) ?_
  refine x_iconst (M := M_X12_hull) dX12_hull_46 ?_
  refine y_callVR (M := M_X12_hull) (M' := M_X12_fails) rfl rfl dX12_hull_47 m_X12_fails t_2805 t_2807 s_157 (q761 hl o2397) rfl rfl o2397 rfl (Nat.le_of_ble_eq_true rfl) (Nat.le_of_ble_eq_true rfl) (Nat.le_of_ble_eq_true rfl) (Nat.le_of_ble_eq_true rfl) (fun h2400 f2401 w2402 => ?_)
  obtain ⟨o2403, -⟩ := w2402
  refine x_if_ne (M := M_X12_hull) (tgt := 74) dX12_hull_50 (by decide) (fun _ => ?_) (fun q => absurd q (by decide +kernel))
  refine x_iconst (M := M_X12_hull) dX12_hull_74 ?_
  exact x_iret (M := M_X12_hull) dX12_hull_75 rfl ⟨rfl, (fr_tr f2401 (by decide) (fr_tr f2395 (by decide) (fr_tr f2393 (by decide) fr_rf))), ⟨o2403, trivial⟩⟩ (Nat.le_of_ble_eq_true rfl) (Nat.le_of_ble_eq_true rfl)
set_option maxRecDepth 10000 in
theorem lc18_2 {l : Launch} {E : EE} (hl : l.stackTraces = false) (nm : String) {xs : Nat → Int32} (hx : E.2.2.2.2 0 = some (7, xs)) {h : HP} {a0 : Int32} {a1 : Int32} {dg : Int32} (e2 : xs 2 = a0) (e3 : xs 3 = a1) (c0 : ¬ (a0.toInt < 0)) (c1 : a0.toInt < 32) (c2 : ¬ (a1.toInt < 0)) (c3 : a1.toInt < 32) (o2384 : ob h 32 = some (.inr (14, [.ref 33, .ref 162, .ref 166, .int (0 : Int32), .int (0 : Int32), .int (0 : Int32), .ref 167, .ref 170, .ref 173, .ref 177, .ref 193, .ref 208, .ref 222, .ref 238, .ref 252, .ref 274, .ref 275, .ref 276, .int (0 : Int32)]))) (o2385 : ob h 33 = some (.inl (4, 32, .inr (.inr (.inr (.inr (shf 1 32))))))) (o2386 : ob h (34 + 4 * a0.toNatClampNeg) = some (.inr (9, [.ref (35 + 4 * a0.toNatClampNeg), .ref (36 + 4 * a0.toNatClampNeg), .ref (37 + 4 * a0.toNatClampNeg), .int (0 : Int32), .int (0 : Int32)]))) (o2405 : ob h 277 = some (.inr (15, (RB dg)))) (o2407 : ob h 280 = some (.inl (0, 33, .inl (fun _ => 0)))) : XX l E (M_law nm) 1312 342628 8074320 (fun o _ => o = .inl (some (.int 1))) 1358 [some (.ref 0), some (.ref 32), some (.ref 277), some (.ref 359), some (.int (Int32.ofInt 1)), none, none, none] [] h 328 2463747 := by
  have n_a0 : a0.toNatClampNeg < 32 := nc_lt (by omega) (by decide)
  refine x_aload_n (M := (M_law nm)) dL_law_1358 rfl ?_
  refine x_aload_n (M := (M_law nm)) dL_law_1359 rfl ?_
  refine x_iload (M := (M_law nm)) dL_law_1360 rfl ?_
  refine x_iconst (M := (M_law nm)) dL_law_1362 ?_
  refine x_iadd (M := (M_law nm)) dL_law_1363 ?_
  refine x_sald (M := (M_law nm)) dL_law_1364 (by decide) hx (vp_inD (by decide +kernel)) ?_
  refine x_top (M := (M_law nm)) (y := a0) ((congrArg xs (by decide +kernel : ((Int32.ofInt 1) + (Int32.ofInt 1)).toNatClampNeg = 2)).trans e2) ?_
  refine x_aload_n (M := (M_law nm)) dL_law_1365 rfl ?_
  refine x_iload (M := (M_law nm)) dL_law_1366 rfl ?_
  refine x_iconst (M := (M_law nm)) dL_law_1368 ?_
  refine x_iadd (M := (M_law nm)) dL_law_1369 ?_
  refine x_sald (M := (M_law nm)) dL_law_1370 (by decide) hx (vp_inD (by decide +kernel)) ?_
  refine x_top (M := (M_law nm)) (y := a1) ((congrArg xs (by decide +kernel : ((Int32.ofInt 1) + (Int32.ofInt 2)).toNatClampNeg = 3)).trans e3) ?_
  refine x_aload_n (M := (M_law nm)) dL_law_1371 rfl ?_
  refine y_callSW (M := (M_law nm)) (M' := M_L_hull) rfl rfl dL_law_1372 m_L_hull t_2076 t_2077 (q2383 hl c0 c1 c2 c3 o2384 o2385 o2386) rfl rfl (Nat.le_of_ble_eq_true rfl) (Nat.le_of_ble_eq_true rfl) (Nat.le_of_ble_eq_true rfl) (Nat.le_of_ble_eq_true rfl) (fun h2387 f2388 w2389 => ?_)
  refine x_istore (M := (M_law nm)) dL_law_1375 (Nat.le_of_ble_eq_true rfl) rfl ?_
  refine x_aload_n (M := (M_law nm)) dL_law_1377 rfl ?_
  refine x_aload_n (M := (M_law nm)) dL_law_1378 rfl ?_
  refine x_iload (M := (M_law nm)) dL_law_1379 rfl ?_
  refine x_iconst (M := (M_law nm)) dL_law_1381 ?_
  refine x_iadd (M := (M_law nm)) dL_law_1382 ?_
  refine x_sald (M := (M_law nm)) dL_law_1383 (by decide) hx (vp_inD (by decide +kernel)) ?_
  refine x_top (M := (M_law nm)) (y := a0) ((congrArg xs (by decide +kernel : ((Int32.ofInt 1) + (Int32.ofInt 1)).toNatClampNeg = 2)).trans e2) ?_
  refine x_aload_n (M := (M_law nm)) dL_law_1384 rfl ?_
  refine x_iload (M := (M_law nm)) dL_law_1385 rfl ?_
  refine x_iconst (M := (M_law nm)) dL_law_1387 ?_
  refine x_iadd (M := (M_law nm)) dL_law_1388 ?_
  refine x_sald (M := (M_law nm)) dL_law_1389 (by decide) hx (vp_inD (by decide +kernel)) ?_
  refine x_top (M := (M_law nm)) (y := a1) ((congrArg xs (by decide +kernel : ((Int32.ofInt 1) + (Int32.ofInt 2)).toNatClampNeg = 3)).trans e3) ?_
  have o2406 := (f2388 277 _ (by decide) o2405)
  have o2408 := (f2388 280 _ (by decide) o2407)
  refine y_callVR (M := (M_law nm)) (M' := M_X12_hull) rfl rfl dL_law_1390 m_X12_hull t_3617 t_3618 t_3619 (q2404 hl c0 c1 c2 c3 o2406 o2408) rfl rfl o2406 rfl (Nat.le_of_ble_eq_true rfl) (Nat.le_of_ble_eq_true rfl) (Nat.le_of_ble_eq_true rfl) (Nat.le_of_ble_eq_true rfl) (fun h2409 f2410 w2411 => ?_)
  obtain ⟨o2412, -⟩ := w2411
  refine x_istore (M := (M_law nm)) dL_law_1393 (Nat.le_of_ble_eq_true rfl) rfl ?_
  refine x_aload_n (M := (M_law nm)) dL_law_1395 rfl ?_
  refine x_callVR (M := (M_law nm)) (M' := M_X12_thrown) rfl rfl dL_law_1396 m_X12_thrown t_2797 t_2798 t_2799 (q774 hl o2412) rfl rfl o2412 rfl (Nat.le_of_ble_eq_true rfl) (Nat.le_of_ble_eq_true rfl) (Nat.le_of_ble_eq_true rfl) (Nat.le_of_ble_eq_true rfl) ?_
  refine x_iload (M := (M_law nm)) dL_law_1399 rfl ?_
  refine x_icmp_eq (M := (M_law nm)) (tgt := 1406) dL_law_1401 (by decide) (fun _ => ?_) (fun q => absurd q (by decide +kernel))
  refine x_iload (M := (M_law nm)) dL_law_1406 rfl ?_
  refine x_if_ne (M := (M_law nm)) (tgt := 1423) dL_law_1408 (by decide) (fun _ => ?_) (fun q => absurd q (by decide +kernel))
  refine x_goto (M := (M_law nm)) (tgt := 2449) dL_law_1423 (by decide) ?_
  refine x_iinc (M := (M_law nm)) dL_law_2449 rfl (Nat.le_of_ble_eq_true rfl) rfl ?_
  refine x_lvs (M := (M_law nm)) (lv' := [some (.ref 0), some (.ref 32), some (.ref 277), some (.ref 359), some (.int (Int32.ofInt 7)), some (.int (Int32.ofInt 2)), some (.int (Int32.ofInt 0)), none]) (by rw [(by decide +kernel : (Int32.ofInt 1) + Int32.ofInt 6 = (Int32.ofInt 7))] <;> rfl) ?_
  refine x_goto (M := (M_law nm)) (tgt := 33) dL_law_2452 (by decide) ?_
  refine x_iload (M := (M_law nm)) dL_law_33 rfl ?_
  refine x_aload_n (M := (M_law nm)) dL_law_35 rfl ?_
  refine x_slen (M := (M_law nm)) dL_law_36 (by decide) hx ?_
  refine x_bipush (M := (M_law nm)) dL_law_37 ?_
  refine x_isub (M := (M_law nm)) dL_law_39 ?_
  refine x_icmp_gt (M := (M_law nm)) (tgt := 2455) dL_law_40 (by decide) (fun _ => ?_) (fun q => absurd q (by decide +kernel))
  refine x_iconst (M := (M_law nm)) dL_law_2455 ?_
  exact x_zret (M := (M_law nm)) dL_law_2456 rfl (by decide) rfl (Nat.le_of_ble_eq_true rfl) (Nat.le_of_ble_eq_true rfl)
set_option maxRecDepth 10000 in
theorem q2418 {l : Launch} {E : EE} (hl : l.stackTraces = false) {h : HP} {a0 : Int32} {a1 : Int32} (c0 : ¬ (a0.toInt < 0)) (c1 : a0.toInt < 32) (c2 : ¬ (a1.toInt < 0)) (c3 : ¬ (a1.toInt < 32)) (o2413 : ob h 32 = some (.inr (14, [.ref 33, .ref 162, .ref 166, .int (0 : Int32), .int (0 : Int32), .int (0 : Int32), .ref 167, .ref 170, .ref 173, .ref 177, .ref 193, .ref 208, .ref 222, .ref 238, .ref 252, .ref 274, .ref 275, .ref 276, .int (0 : Int32)]))) (o2414 : ob h 33 = some (.inl (4, 32, .inr (.inr (.inr (.inr (shf 1 32))))))) : en_C l E M_X11_hull 7 1 6 [.ref 32, .int a0, .int a1] h (pT "java/lang/IndexOutOfBoundsException" [] h (fun _ => True)) := by
  refine en_mk m_X11_hull rfl hl (Nat.le_of_ble_eq_true rfl) ?_
  refine x_aload_n (M := M_X11_hull) dX11_hull_0 rfl ?_
  refine x_iload_n (M := M_X11_hull) dX11_hull_1 rfl ?_
  refine x_callVR (M := M_X11_hull) (M' := M_X11_slotNumbered) rfl rfl dX11_hull_2 m_X11_slotNumbered t_744 t_746 s_2 (q425 hl c0 c1 o2413 o2414) rfl rfl o2413 rfl (Nat.le_of_ble_eq_true rfl) (Nat.le_of_ble_eq_true rfl) (Nat.le_of_ble_eq_true rfl) (Nat.le_of_ble_eq_true rfl) ?_
  refine x_astore_n (M := M_X11_hull) dX11_hull_5 (Nat.le_of_ble_eq_true rfl) rfl ?_
  refine x_aload_n (M := M_X11_hull) dX11_hull_6 rfl ?_
  refine x_iload_n (M := M_X11_hull) dX11_hull_7 rfl ?_
  exact y_callVX (M := M_X11_hull) (M' := M_X11_slotNumbered) rfl rfl dX11_hull_8 m_X11_slotNumbered t_744 t_746 s_2 (q1560 hl c2 c3) rfl rfl o2413 rfl (Nat.le_of_ble_eq_true rfl) (Nat.le_of_ble_eq_true rfl) (Nat.le_of_ble_eq_true rfl) (Nat.le_of_ble_eq_true rfl) (fun h2415 f2416 w2417 => ⟨rfl, (fr_tr f2416 (fun _ h => nomatch h) fr_rf), trivial⟩)
set_option maxRecDepth 10000 in
theorem q2424 {l : Launch} {E : EE} (hl : l.stackTraces = false) {h : HP} {a0 : Int32} {a1 : Int32} (c0 : ¬ (a0.toInt < 0)) (c1 : a0.toInt < 32) (c2 : ¬ (a1.toInt < 0)) (c3 : ¬ (a1.toInt < 32)) (o2419 : ob h 32 = some (.inr (14, [.ref 33, .ref 162, .ref 166, .int (0 : Int32), .int (0 : Int32), .int (0 : Int32), .ref 167, .ref 170, .ref 173, .ref 177, .ref 193, .ref 208, .ref 222, .ref 238, .ref 252, .ref 274, .ref 275, .ref 276, .int (0 : Int32)]))) (o2420 : ob h 33 = some (.inl (4, 32, .inr (.inr (.inr (.inr (shf 1 32))))))) : en_C l E M_L_hull 8 1 6 [.ref 32, .int a0, .int a1, .ref 359] h (pF (some (.int (Int32.ofInt 1))) [] h (fun _ => True)) := by
  refine en_mkW m_L_hull rfl hl (Nat.le_of_ble_eq_true rfl) ?_
  refine x_aload_n (M := M_L_hull) dL_hull_0 rfl ?_
  refine x_iconst (M := M_L_hull) dL_hull_1 ?_
  refine x_aload_n (M := M_L_hull) dL_hull_2 rfl ?_
  refine x_iload_n (M := M_L_hull) dL_hull_3 rfl ?_
  refine x_iload_n (M := M_L_hull) dL_hull_4 rfl ?_
  refine y_callVHX (M := M_L_hull) (M' := M_X11_hull) (i9 := 4) (nx := 15) rfl dL_hull_5 m_X11_hull t_2079 t_2080 t_2081 o2419 rfl (q2418 hl c0 c1 c2 c3 o2419 o2420) rfl rfl (Nat.le_of_ble_eq_true rfl) (Nat.le_of_ble_eq_true rfl) (Nat.le_of_ble_eq_true rfl) (Nat.le_of_ble_eq_true rfl) (en_hdm (k0 := 4) [] [(0, 10, 17, 13), (0, 10, 21, 63)] rfl (fun _ h => nomatch h) (by decide +kernel) (by decide) t_739 n_750 dL_hull_13) (by decide) rfl (fun h2421 f2422 w2423 => ?_)
  refine x_iconst (M := M_L_hull) dL_hull_15 ?_
  exact x_iret (M := M_L_hull) dL_hull_16 rfl ⟨rfl, (fr_tr f2422 (fun _ h => nomatch h) fr_rf), trivial⟩ (Nat.le_of_ble_eq_true rfl) (Nat.le_of_ble_eq_true rfl)
set_option maxRecDepth 10000 in
theorem q2438 {l : Launch} {E : EE} (hl : l.stackTraces = false) {h : HP} {a0 : Int32} {a1 : Int32} {dg : Int32} (c0 : ¬ (a0.toInt < 0)) (c1 : a0.toInt < 32) (c2 : ¬ (a1.toInt < 0)) (c3 : ¬ (a1.toInt < 32)) (o2430 : ob h 277 = some (.inr (15, (RB dg)))) : en_C l E M_X12_hull 1 0 0 [.ref 277, .int a0, .int a1] h (pF (some (.int (Int32.ofInt 0))) [277] h (fun h' => ob h' 277 = some (.inr (15, ((RB dg).set 0 (.int (Int32.ofInt 1))))) ∧ True)) := by
  refine en_mk m_X12_hull rfl hl (Nat.le_of_ble_eq_true rfl) ?_
  refine x_aload_n (M := M_X12_hull) dX12_hull_0 rfl ?_
  refine x_iconst (M := M_X12_hull) dX12_hull_1 ?_
  refine y_put (M := M_X12_hull) (ci := 15) (C := RX12) (T := TX12) (N := 135) (ty := tyX12) cl15 dX12_hull_2 o2430 0 (by decide) t_2391 (Or.inl rfl) (Nat.le_of_ble_eq_true rfl) rfl (fun h2431 w2432 f2433 => ?_)
  refine x_aload_n (M := M_X12_hull) dX12_hull_5 rfl ?_
  refine x_iload_n (M := M_X12_hull) dX12_hull_6 rfl ?_
  refine x_callSR (M := M_X12_hull) (M' := M_X12_isSlot) rfl rfl dX12_hull_7 m_X12_isSlot t_2841 t_2842 (q447 hl c0 c1) rfl rfl (Nat.le_of_ble_eq_true rfl) (Nat.le_of_ble_eq_true rfl) (Nat.le_of_ble_eq_true rfl) (Nat.le_of_ble_eq_true rfl) ?_
  refine x_if_eq (M := M_X12_hull) (tgt := 20) dX12_hull_10 (by decide) (fun q => absurd q (by decide +kernel)) (fun _ => ?_)
  refine x_iload_n (M := M_X12_hull) dX12_hull_13 rfl ?_
  refine x_callSR (M := M_X12_hull) (M' := M_X12_isSlot) rfl rfl dX12_hull_14 m_X12_isSlot t_2841 t_2842 (q1580 hl c2 c3) rfl rfl (Nat.le_of_ble_eq_true rfl) (Nat.le_of_ble_eq_true rfl) (Nat.le_of_ble_eq_true rfl) (Nat.le_of_ble_eq_true rfl) ?_
  refine x_if_ne (M := M_X12_hull) (tgt := 24) dX12_hull_17 (by decide) (fun q => absurd q (by decide +kernel)) (fun _ => ?_)
  refine x_iconst (M := M_X12_hull) dX12_hull_20 ?_
  refine x_goto (M := M_X12_hull) (tgt := 25) dX12_hull_21 (by decide) ?_
  refine x_iconst (M := M_X12_hull) dX12_hull_25 ?_
  refine y_callVR (M := M_X12_hull) (M' := M_X12_fails) rfl rfl dX12_hull_26 m_X12_fails t_2805 t_2807 s_157 (q22 hl w2432) rfl rfl w2432 rfl (Nat.le_of_ble_eq_true rfl) (Nat.le_of_ble_eq_true rfl) (Nat.le_of_ble_eq_true rfl) (Nat.le_of_ble_eq_true rfl) (fun h2434 f2435 w2436 => ?_)
  obtain ⟨o2437, -⟩ := w2436
  refine x_if_ne (M := M_X12_hull) (tgt := 74) dX12_hull_29 (by decide) (fun _ => ?_) (fun q => absurd q (by decide +kernel))
  refine x_iconst (M := M_X12_hull) dX12_hull_74 ?_
  exact x_iret (M := M_X12_hull) dX12_hull_75 rfl ⟨rfl, (fr_tr f2435 (by decide) (fr_tr f2433 (by decide) fr_rf)), ⟨o2437, trivial⟩⟩ (Nat.le_of_ble_eq_true rfl) (Nat.le_of_ble_eq_true rfl)
set_option maxRecDepth 10000 in
theorem lc18_3 {l : Launch} {E : EE} (hl : l.stackTraces = false) (nm : String) {xs : Nat → Int32} (hx : E.2.2.2.2 0 = some (7, xs)) {h : HP} {a0 : Int32} {a1 : Int32} {dg : Int32} (e2 : xs 2 = a0) (e3 : xs 3 = a1) (c0 : ¬ (a0.toInt < 0)) (c1 : a0.toInt < 32) (c2 : ¬ (a1.toInt < 0)) (c3 : ¬ (a1.toInt < 32)) (o2425 : ob h 32 = some (.inr (14, [.ref 33, .ref 162, .ref 166, .int (0 : Int32), .int (0 : Int32), .int (0 : Int32), .ref 167, .ref 170, .ref 173, .ref 177, .ref 193, .ref 208, .ref 222, .ref 238, .ref 252, .ref 274, .ref 275, .ref 276, .int (0 : Int32)]))) (o2426 : ob h 33 = some (.inl (4, 32, .inr (.inr (.inr (.inr (shf 1 32))))))) (o2439 : ob h 277 = some (.inr (15, (RB dg)))) : XX l E (M_law nm) 1312 342628 8074320 (fun o _ => o = .inl (some (.int 1))) 1358 [some (.ref 0), some (.ref 32), some (.ref 277), some (.ref 359), some (.int (Int32.ofInt 1)), none, none, none] [] h 328 2463747 := by
  refine x_aload_n (M := (M_law nm)) dL_law_1358 rfl ?_
  refine x_aload_n (M := (M_law nm)) dL_law_1359 rfl ?_
  refine x_iload (M := (M_law nm)) dL_law_1360 rfl ?_
  refine x_iconst (M := (M_law nm)) dL_law_1362 ?_
  refine x_iadd (M := (M_law nm)) dL_law_1363 ?_
  refine x_sald (M := (M_law nm)) dL_law_1364 (by decide) hx (vp_inD (by decide +kernel)) ?_
  refine x_top (M := (M_law nm)) (y := a0) ((congrArg xs (by decide +kernel : ((Int32.ofInt 1) + (Int32.ofInt 1)).toNatClampNeg = 2)).trans e2) ?_
  refine x_aload_n (M := (M_law nm)) dL_law_1365 rfl ?_
  refine x_iload (M := (M_law nm)) dL_law_1366 rfl ?_
  refine x_iconst (M := (M_law nm)) dL_law_1368 ?_
  refine x_iadd (M := (M_law nm)) dL_law_1369 ?_
  refine x_sald (M := (M_law nm)) dL_law_1370 (by decide) hx (vp_inD (by decide +kernel)) ?_
  refine x_top (M := (M_law nm)) (y := a1) ((congrArg xs (by decide +kernel : ((Int32.ofInt 1) + (Int32.ofInt 2)).toNatClampNeg = 3)).trans e3) ?_
  refine x_aload_n (M := (M_law nm)) dL_law_1371 rfl ?_
  refine y_callSW (M := (M_law nm)) (M' := M_L_hull) rfl rfl dL_law_1372 m_L_hull t_2076 t_2077 (q2424 hl c0 c1 c2 c3 o2425 o2426) rfl rfl (Nat.le_of_ble_eq_true rfl) (Nat.le_of_ble_eq_true rfl) (Nat.le_of_ble_eq_true rfl) (Nat.le_of_ble_eq_true rfl) (fun h2427 f2428 w2429 => ?_)
  refine x_istore (M := (M_law nm)) dL_law_1375 (Nat.le_of_ble_eq_true rfl) rfl ?_
  refine x_aload_n (M := (M_law nm)) dL_law_1377 rfl ?_
  refine x_aload_n (M := (M_law nm)) dL_law_1378 rfl ?_
  refine x_iload (M := (M_law nm)) dL_law_1379 rfl ?_
  refine x_iconst (M := (M_law nm)) dL_law_1381 ?_
  refine x_iadd (M := (M_law nm)) dL_law_1382 ?_
  refine x_sald (M := (M_law nm)) dL_law_1383 (by decide) hx (vp_inD (by decide +kernel)) ?_
  refine x_top (M := (M_law nm)) (y := a0) ((congrArg xs (by decide +kernel : ((Int32.ofInt 1) + (Int32.ofInt 1)).toNatClampNeg = 2)).trans e2) ?_
  refine x_aload_n (M := (M_law nm)) dL_law_1384 rfl ?_
  refine x_iload (M := (M_law nm)) dL_law_1385 rfl ?_
  refine x_iconst (M := (M_law nm)) dL_law_1387 ?_
  refine x_iadd (M := (M_law nm)) dL_law_1388 ?_
  refine x_sald (M := (M_law nm)) dL_law_1389 (by decide) hx (vp_inD (by decide +kernel)) ?_
  refine x_top (M := (M_law nm)) (y := a1) ((congrArg xs (by decide +kernel : ((Int32.ofInt 1) + (Int32.ofInt 2)).toNatClampNeg = 3)).trans e3) ?_
  have o2440 := (f2428 277 _ (by decide) o2439)
  refine y_callVR (M := (M_law nm)) (M' := M_X12_hull) rfl rfl dL_law_1390 m_X12_hull t_3617 t_3618 t_3619 (q2438 hl c0 c1 c2 c3 o2440) rfl rfl o2440 rfl (Nat.le_of_ble_eq_true rfl) (Nat.le_of_ble_eq_true rfl) (Nat.le_of_ble_eq_true rfl) (Nat.le_of_ble_eq_true rfl) (fun h2441 f2442 w2443 => ?_)
  obtain ⟨o2444, -⟩ := w2443
  refine x_istore (M := (M_law nm)) dL_law_1393 (Nat.le_of_ble_eq_true rfl) rfl ?_
  refine x_aload_n (M := (M_law nm)) dL_law_1395 rfl ?_
  refine x_callVR (M := (M_law nm)) (M' := M_X12_thrown) rfl rfl dL_law_1396 m_X12_thrown t_2797 t_2798 t_2799 (q35 hl o2444) rfl rfl o2444 rfl (Nat.le_of_ble_eq_true rfl) (Nat.le_of_ble_eq_true rfl) (Nat.le_of_ble_eq_true rfl) (Nat.le_of_ble_eq_true rfl) ?_
  refine x_iload (M := (M_law nm)) dL_law_1399 rfl ?_
  refine x_icmp_eq (M := (M_law nm)) (tgt := 1406) dL_law_1401 (by decide) (fun _ => ?_) (fun q => absurd q (by decide +kernel))
  refine x_iload (M := (M_law nm)) dL_law_1406 rfl ?_
  refine x_if_ne (M := (M_law nm)) (tgt := 1423) dL_law_1408 (by decide) (fun _ => ?_) (fun q => absurd q (by decide +kernel))
  refine x_goto (M := (M_law nm)) (tgt := 2449) dL_law_1423 (by decide) ?_
  refine x_iinc (M := (M_law nm)) dL_law_2449 rfl (Nat.le_of_ble_eq_true rfl) rfl ?_
  refine x_lvs (M := (M_law nm)) (lv' := [some (.ref 0), some (.ref 32), some (.ref 277), some (.ref 359), some (.int (Int32.ofInt 7)), some (.int (Int32.ofInt 1)), some (.int (Int32.ofInt 0)), none]) (by rw [(by decide +kernel : (Int32.ofInt 1) + Int32.ofInt 6 = (Int32.ofInt 7))] <;> rfl) ?_
  refine x_goto (M := (M_law nm)) (tgt := 33) dL_law_2452 (by decide) ?_
  refine x_iload (M := (M_law nm)) dL_law_33 rfl ?_
  refine x_aload_n (M := (M_law nm)) dL_law_35 rfl ?_
  refine x_slen (M := (M_law nm)) dL_law_36 (by decide) hx ?_
  refine x_bipush (M := (M_law nm)) dL_law_37 ?_
  refine x_isub (M := (M_law nm)) dL_law_39 ?_
  refine x_icmp_gt (M := (M_law nm)) (tgt := 2455) dL_law_40 (by decide) (fun _ => ?_) (fun q => absurd q (by decide +kernel))
  refine x_iconst (M := (M_law nm)) dL_law_2455 ?_
  exact x_zret (M := (M_law nm)) dL_law_2456 rfl (by decide) rfl (Nat.le_of_ble_eq_true rfl) (Nat.le_of_ble_eq_true rfl)
set_option maxRecDepth 10000 in
theorem q2449 {l : Launch} {E : EE} (hl : l.stackTraces = false) {h : HP} {a0 : Int32} {a1 : Int32} (c0 : ¬ (a0.toInt < 0)) (c1 : ¬ (a0.toInt < 32)) (o2445 : ob h 32 = some (.inr (14, [.ref 33, .ref 162, .ref 166, .int (0 : Int32), .int (0 : Int32), .int (0 : Int32), .ref 167, .ref 170, .ref 173, .ref 177, .ref 193, .ref 208, .ref 222, .ref 238, .ref 252, .ref 274, .ref 275, .ref 276, .int (0 : Int32)]))) : en_C l E M_X11_hull 7 1 6 [.ref 32, .int a0, .int a1] h (pT "java/lang/IndexOutOfBoundsException" [] h (fun _ => True)) := by
  refine en_mk m_X11_hull rfl hl (Nat.le_of_ble_eq_true rfl) ?_
  refine x_aload_n (M := M_X11_hull) dX11_hull_0 rfl ?_
  refine x_iload_n (M := M_X11_hull) dX11_hull_1 rfl ?_
  exact y_callVX (M := M_X11_hull) (M' := M_X11_slotNumbered) rfl rfl dX11_hull_2 m_X11_slotNumbered t_744 t_746 s_2 (q511 hl c0 c1) rfl rfl o2445 rfl (Nat.le_of_ble_eq_true rfl) (Nat.le_of_ble_eq_true rfl) (Nat.le_of_ble_eq_true rfl) (Nat.le_of_ble_eq_true rfl) (fun h2446 f2447 w2448 => ⟨rfl, (fr_tr f2447 (fun _ h => nomatch h) fr_rf), trivial⟩)
set_option maxRecDepth 10000 in
theorem q2454 {l : Launch} {E : EE} (hl : l.stackTraces = false) {h : HP} {a0 : Int32} {a1 : Int32} (c0 : ¬ (a0.toInt < 0)) (c1 : ¬ (a0.toInt < 32)) (o2450 : ob h 32 = some (.inr (14, [.ref 33, .ref 162, .ref 166, .int (0 : Int32), .int (0 : Int32), .int (0 : Int32), .ref 167, .ref 170, .ref 173, .ref 177, .ref 193, .ref 208, .ref 222, .ref 238, .ref 252, .ref 274, .ref 275, .ref 276, .int (0 : Int32)]))) : en_C l E M_L_hull 8 1 6 [.ref 32, .int a0, .int a1, .ref 359] h (pF (some (.int (Int32.ofInt 1))) [] h (fun _ => True)) := by
  refine en_mkW m_L_hull rfl hl (Nat.le_of_ble_eq_true rfl) ?_
  refine x_aload_n (M := M_L_hull) dL_hull_0 rfl ?_
  refine x_iconst (M := M_L_hull) dL_hull_1 ?_
  refine x_aload_n (M := M_L_hull) dL_hull_2 rfl ?_
  refine x_iload_n (M := M_L_hull) dL_hull_3 rfl ?_
  refine x_iload_n (M := M_L_hull) dL_hull_4 rfl ?_
  refine y_callVHX (M := M_L_hull) (M' := M_X11_hull) (i9 := 4) (nx := 15) rfl dL_hull_5 m_X11_hull t_2079 t_2080 t_2081 o2450 rfl (q2449 hl c0 c1 o2450) rfl rfl (Nat.le_of_ble_eq_true rfl) (Nat.le_of_ble_eq_true rfl) (Nat.le_of_ble_eq_true rfl) (Nat.le_of_ble_eq_true rfl) (en_hdm (k0 := 4) [] [(0, 10, 17, 13), (0, 10, 21, 63)] rfl (fun _ h => nomatch h) (by decide +kernel) (by decide) t_739 n_750 dL_hull_13) (by decide) rfl (fun h2451 f2452 w2453 => ?_)
  refine x_iconst (M := M_L_hull) dL_hull_15 ?_
  exact x_iret (M := M_L_hull) dL_hull_16 rfl ⟨rfl, (fr_tr f2452 (fun _ h => nomatch h) fr_rf), trivial⟩ (Nat.le_of_ble_eq_true rfl) (Nat.le_of_ble_eq_true rfl)
set_option maxRecDepth 10000 in
theorem q2467 {l : Launch} {E : EE} (hl : l.stackTraces = false) {h : HP} {a0 : Int32} {a1 : Int32} {dg : Int32} (c0 : ¬ (a0.toInt < 0)) (c1 : ¬ (a0.toInt < 32)) (o2459 : ob h 277 = some (.inr (15, (RB dg)))) : en_C l E M_X12_hull 1 0 0 [.ref 277, .int a0, .int a1] h (pF (some (.int (Int32.ofInt 0))) [277] h (fun h' => ob h' 277 = some (.inr (15, ((RB dg).set 0 (.int (Int32.ofInt 1))))) ∧ True)) := by
  refine en_mk m_X12_hull rfl hl (Nat.le_of_ble_eq_true rfl) ?_
  refine x_aload_n (M := M_X12_hull) dX12_hull_0 rfl ?_
  refine x_iconst (M := M_X12_hull) dX12_hull_1 ?_
  refine y_put (M := M_X12_hull) (ci := 15) (C := RX12) (T := TX12) (N := 135) (ty := tyX12) cl15 dX12_hull_2 o2459 0 (by decide) t_2391 (Or.inl rfl) (Nat.le_of_ble_eq_true rfl) rfl (fun h2460 w2461 f2462 => ?_)
  refine x_aload_n (M := M_X12_hull) dX12_hull_5 rfl ?_
  refine x_iload_n (M := M_X12_hull) dX12_hull_6 rfl ?_
  refine x_callSR (M := M_X12_hull) (M' := M_X12_isSlot) rfl rfl dX12_hull_7 m_X12_isSlot t_2841 t_2842 (q530 hl c0 c1) rfl rfl (Nat.le_of_ble_eq_true rfl) (Nat.le_of_ble_eq_true rfl) (Nat.le_of_ble_eq_true rfl) (Nat.le_of_ble_eq_true rfl) ?_
  refine x_if_eq (M := M_X12_hull) (tgt := 20) dX12_hull_10 (by decide) (fun _ => ?_) (fun q => absurd q (by decide +kernel))
  refine x_iconst (M := M_X12_hull) dX12_hull_20 ?_
  refine x_goto (M := M_X12_hull) (tgt := 25) dX12_hull_21 (by decide) ?_
  refine x_iconst (M := M_X12_hull) dX12_hull_25 ?_
  refine y_callVR (M := M_X12_hull) (M' := M_X12_fails) rfl rfl dX12_hull_26 m_X12_fails t_2805 t_2807 s_157 (q22 hl w2461) rfl rfl w2461 rfl (Nat.le_of_ble_eq_true rfl) (Nat.le_of_ble_eq_true rfl) (Nat.le_of_ble_eq_true rfl) (Nat.le_of_ble_eq_true rfl) (fun h2463 f2464 w2465 => ?_)
  obtain ⟨o2466, -⟩ := w2465
  refine x_if_ne (M := M_X12_hull) (tgt := 74) dX12_hull_29 (by decide) (fun _ => ?_) (fun q => absurd q (by decide +kernel))
  refine x_iconst (M := M_X12_hull) dX12_hull_74 ?_
  exact x_iret (M := M_X12_hull) dX12_hull_75 rfl ⟨rfl, (fr_tr f2464 (by decide) (fr_tr f2462 (by decide) fr_rf)), ⟨o2466, trivial⟩⟩ (Nat.le_of_ble_eq_true rfl) (Nat.le_of_ble_eq_true rfl)
set_option maxRecDepth 10000 in
theorem lc18_4 {l : Launch} {E : EE} (hl : l.stackTraces = false) (nm : String) {xs : Nat → Int32} (hx : E.2.2.2.2 0 = some (7, xs)) {h : HP} {a0 : Int32} {a1 : Int32} {dg : Int32} (e2 : xs 2 = a0) (e3 : xs 3 = a1) (c0 : ¬ (a0.toInt < 0)) (c1 : ¬ (a0.toInt < 32)) (o2455 : ob h 32 = some (.inr (14, [.ref 33, .ref 162, .ref 166, .int (0 : Int32), .int (0 : Int32), .int (0 : Int32), .ref 167, .ref 170, .ref 173, .ref 177, .ref 193, .ref 208, .ref 222, .ref 238, .ref 252, .ref 274, .ref 275, .ref 276, .int (0 : Int32)]))) (o2468 : ob h 277 = some (.inr (15, (RB dg)))) : XX l E (M_law nm) 1312 342628 8074320 (fun o _ => o = .inl (some (.int 1))) 1358 [some (.ref 0), some (.ref 32), some (.ref 277), some (.ref 359), some (.int (Int32.ofInt 1)), none, none, none] [] h 328 2463747 := by
  refine x_aload_n (M := (M_law nm)) dL_law_1358 rfl ?_
  refine x_aload_n (M := (M_law nm)) dL_law_1359 rfl ?_
  refine x_iload (M := (M_law nm)) dL_law_1360 rfl ?_
  refine x_iconst (M := (M_law nm)) dL_law_1362 ?_
  refine x_iadd (M := (M_law nm)) dL_law_1363 ?_
  refine x_sald (M := (M_law nm)) dL_law_1364 (by decide) hx (vp_inD (by decide +kernel)) ?_
  refine x_top (M := (M_law nm)) (y := a0) ((congrArg xs (by decide +kernel : ((Int32.ofInt 1) + (Int32.ofInt 1)).toNatClampNeg = 2)).trans e2) ?_
  refine x_aload_n (M := (M_law nm)) dL_law_1365 rfl ?_
  refine x_iload (M := (M_law nm)) dL_law_1366 rfl ?_
  refine x_iconst (M := (M_law nm)) dL_law_1368 ?_
  refine x_iadd (M := (M_law nm)) dL_law_1369 ?_
  refine x_sald (M := (M_law nm)) dL_law_1370 (by decide) hx (vp_inD (by decide +kernel)) ?_
  refine x_top (M := (M_law nm)) (y := a1) ((congrArg xs (by decide +kernel : ((Int32.ofInt 1) + (Int32.ofInt 2)).toNatClampNeg = 3)).trans e3) ?_
  refine x_aload_n (M := (M_law nm)) dL_law_1371 rfl ?_
  refine y_callSW (M := (M_law nm)) (M' := M_L_hull) rfl rfl dL_law_1372 m_L_hull t_2076 t_2077 (q2454 hl c0 c1 o2455) rfl rfl (Nat.le_of_ble_eq_true rfl) (Nat.le_of_ble_eq_true rfl) (Nat.le_of_ble_eq_true rfl) (Nat.le_of_ble_eq_true rfl) (fun h2456 f2457 w2458 => ?_)
  refine x_istore (M := (M_law nm)) dL_law_1375 (Nat.le_of_ble_eq_true rfl) rfl ?_
  refine x_aload_n (M := (M_law nm)) dL_law_1377 rfl ?_
  refine x_aload_n (M := (M_law nm)) dL_law_1378 rfl ?_
  refine x_iload (M := (M_law nm)) dL_law_1379 rfl ?_
  refine x_iconst (M := (M_law nm)) dL_law_1381 ?_
  refine x_iadd (M := (M_law nm)) dL_law_1382 ?_
  refine x_sald (M := (M_law nm)) dL_law_1383 (by decide) hx (vp_inD (by decide +kernel)) ?_
  refine x_top (M := (M_law nm)) (y := a0) ((congrArg xs (by decide +kernel : ((Int32.ofInt 1) + (Int32.ofInt 1)).toNatClampNeg = 2)).trans e2) ?_
  refine x_aload_n (M := (M_law nm)) dL_law_1384 rfl ?_
  refine x_iload (M := (M_law nm)) dL_law_1385 rfl ?_
  refine x_iconst (M := (M_law nm)) dL_law_1387 ?_
  refine x_iadd (M := (M_law nm)) dL_law_1388 ?_
  refine x_sald (M := (M_law nm)) dL_law_1389 (by decide) hx (vp_inD (by decide +kernel)) ?_
  refine x_top (M := (M_law nm)) (y := a1) ((congrArg xs (by decide +kernel : ((Int32.ofInt 1) + (Int32.ofInt 2)).toNatClampNeg = 3)).trans e3) ?_
  have o2469 := (f2457 277 _ (by decide) o2468)
  refine y_callVR (M := (M_law nm)) (M' := M_X12_hull) rfl rfl dL_law_1390 m_X12_hull t_3617 t_3618 t_3619 (q2467 hl c0 c1 o2469) rfl rfl o2469 rfl (Nat.le_of_ble_eq_true rfl) (Nat.le_of_ble_eq_true rfl) (Nat.le_of_ble_eq_true rfl) (Nat.le_of_ble_eq_true rfl) (fun h2470 f2471 w2472 => ?_)
  obtain ⟨o2473, -⟩ := w2472
  refine x_istore (M := (M_law nm)) dL_law_1393 (Nat.le_of_ble_eq_true rfl) rfl ?_
  refine x_aload_n (M := (M_law nm)) dL_law_1395 rfl ?_
  refine x_callVR (M := (M_law nm)) (M' := M_X12_thrown) rfl rfl dL_law_1396 m_X12_thrown t_2797 t_2798 t_2799 (q35 hl o2473) rfl rfl o2473 rfl (Nat.le_of_ble_eq_true rfl) (Nat.le_of_ble_eq_true rfl) (Nat.le_of_ble_eq_true rfl) (Nat.le_of_ble_eq_true rfl) ?_
  refine x_iload (M := (M_law nm)) dL_law_1399 rfl ?_
  refine x_icmp_eq (M := (M_law nm)) (tgt := 1406) dL_law_1401 (by decide) (fun _ => ?_) (fun q => absurd q (by decide +kernel))
  refine x_iload (M := (M_law nm)) dL_law_1406 rfl ?_
  refine x_if_ne (M := (M_law nm)) (tgt := 1423) dL_law_1408 (by decide) (fun _ => ?_) (fun q => absurd q (by decide +kernel))
  refine x_goto (M := (M_law nm)) (tgt := 2449) dL_law_1423 (by decide) ?_
  refine x_iinc (M := (M_law nm)) dL_law_2449 rfl (Nat.le_of_ble_eq_true rfl) rfl ?_
  refine x_lvs (M := (M_law nm)) (lv' := [some (.ref 0), some (.ref 32), some (.ref 277), some (.ref 359), some (.int (Int32.ofInt 7)), some (.int (Int32.ofInt 1)), some (.int (Int32.ofInt 0)), none]) (by rw [(by decide +kernel : (Int32.ofInt 1) + Int32.ofInt 6 = (Int32.ofInt 7))] <;> rfl) ?_
  refine x_goto (M := (M_law nm)) (tgt := 33) dL_law_2452 (by decide) ?_
  refine x_iload (M := (M_law nm)) dL_law_33 rfl ?_
  refine x_aload_n (M := (M_law nm)) dL_law_35 rfl ?_
  refine x_slen (M := (M_law nm)) dL_law_36 (by decide) hx ?_
  refine x_bipush (M := (M_law nm)) dL_law_37 ?_
  refine x_isub (M := (M_law nm)) dL_law_39 ?_
  refine x_icmp_gt (M := (M_law nm)) (tgt := 2455) dL_law_40 (by decide) (fun _ => ?_) (fun q => absurd q (by decide +kernel))
  refine x_iconst (M := (M_law nm)) dL_law_2455 ?_
  exact x_zret (M := (M_law nm)) dL_law_2456 rfl (by decide) rfl (Nat.le_of_ble_eq_true rfl) (Nat.le_of_ble_eq_true rfl)
theorem lop18 {l : Launch} {E : EE} (hl : l.stackTraces = false) (nm : String) {xs : Nat → Int32} (hx : E.2.2.2.2 0 = some (7, xs)) (dg : Int32) : XX l E (M_law nm) 1312 342628 8074320 (fun o _ => o = .inl (some (.int 1))) 1358 [some (.ref 0), some (.ref 32), some (.ref 277), some (.ref 359), some (.int (Int32.ofInt 1)), none, none, none] [] (HH dg) 328 2463747 := by
  obtain ⟨a0, e2⟩ : ∃ a : Int32, xs 2 = a := ⟨_, rfl⟩
  obtain ⟨a1, e3⟩ : ∃ a : Int32, xs 3 = a := ⟨_, rfl⟩
  obtain ⟨a2, e4⟩ : ∃ a : Int32, xs 4 = a := ⟨_, rfl⟩
  obtain ⟨a3, e5⟩ : ∃ a : Int32, xs 5 = a := ⟨_, rfl⟩
  obtain ⟨a4, e6⟩ : ∃ a : Int32, xs 6 = a := ⟨_, rfl⟩
  by_cases c0 : a0.toInt < 0
  · exact lc18_0 hl nm hx e2 e3 c0 (o_32 dg) (o_277b dg)
  · by_cases c1 : a0.toInt < 32
    · by_cases c2 : a1.toInt < 0
      · exact lc18_1 hl nm hx e2 e3 c0 c1 c2 (o_32 dg) (o_33 dg) (o_277b dg)
      · by_cases c3 : a1.toInt < 32
        · have n_a0 : a0.toNatClampNeg < 32 := nc_lt (by omega) (by decide)
          exact lc18_2 hl nm hx e2 e3 c0 c1 c2 c3 (o_32 dg) (o_33 dg) (o_sh dg a0.toNatClampNeg n_a0) (o_277b dg) (oMR (dg := dg) (k := 2) rfl)
        · exact lc18_3 hl nm hx e2 e3 c0 c1 c2 c3 (o_32 dg) (o_33 dg) (o_277b dg)
    · exact lc18_4 hl nm hx e2 e3 c0 c1 (o_32 dg) (o_277b dg)
set_option maxRecDepth 10000 in
theorem q2478 {l : Launch} {E : EE} (hl : l.stackTraces = false) {h : HP} {a0 : Int32} {a1 : Int32} (c0 : a0.toInt < 0) (o2474 : ob h 32 = some (.inr (14, [.ref 33, .ref 162, .ref 166, .int (0 : Int32), .int (0 : Int32), .int (0 : Int32), .ref 167, .ref 170, .ref 173, .ref 177, .ref 193, .ref 208, .ref 222, .ref 238, .ref 252, .ref 274, .ref 275, .ref 276, .int (0 : Int32)]))) : en_C l E M_X11_triangles 7 1 6 [.ref 32, .int a0, .int a1] h (pT "java/lang/IndexOutOfBoundsException" [] h (fun _ => True)) := by
  refine en_mk m_X11_triangles rfl hl (Nat.le_of_ble_eq_true rfl) ?_
  refine x_aload_n (M := M_X11_triangles) dX11_triangles_0 rfl ?_
  refine x_iload_n (M := M_X11_triangles) dX11_triangles_1 rfl ?_
  exact y_callVX (M := M_X11_triangles) (M' := M_X11_slotNumbered) rfl rfl dX11_triangles_2 m_X11_slotNumbered t_744 t_746 s_2 (q392 hl c0) rfl rfl o2474 rfl (Nat.le_of_ble_eq_true rfl) (Nat.le_of_ble_eq_true rfl) (Nat.le_of_ble_eq_true rfl) (Nat.le_of_ble_eq_true rfl) (fun h2475 f2476 w2477 => ⟨rfl, (fr_tr f2476 (fun _ h => nomatch h) fr_rf), trivial⟩)
set_option maxRecDepth 10000 in
theorem q2483 {l : Launch} {E : EE} (hl : l.stackTraces = false) {h : HP} {a0 : Int32} {a1 : Int32} (c0 : a0.toInt < 0) (o2479 : ob h 32 = some (.inr (14, [.ref 33, .ref 162, .ref 166, .int (0 : Int32), .int (0 : Int32), .int (0 : Int32), .ref 167, .ref 170, .ref 173, .ref 177, .ref 193, .ref 208, .ref 222, .ref 238, .ref 252, .ref 274, .ref 275, .ref 276, .int (0 : Int32)]))) : en_C l E M_L_triangles 8 1 6 [.ref 32, .int a0, .int a1, .ref 359] h (pF (some (.int (Int32.ofInt 1))) [] h (fun _ => True)) := by
  refine en_mkW m_L_triangles rfl hl (Nat.le_of_ble_eq_true rfl) ?_
  refine x_aload_n (M := M_L_triangles) dL_triangles_0 rfl ?_
  refine x_iconst (M := M_L_triangles) dL_triangles_1 ?_
  refine x_aload_n (M := M_L_triangles) dL_triangles_2 rfl ?_
  refine x_iload_n (M := M_L_triangles) dL_triangles_3 rfl ?_
  refine x_iload_n (M := M_L_triangles) dL_triangles_4 rfl ?_
  refine y_callVHX (M := M_L_triangles) (M' := M_X11_triangles) (i9 := 4) (nx := 15) rfl dL_triangles_5 m_X11_triangles t_2125 t_2126 t_2127 o2479 rfl (q2478 hl c0 o2479) rfl rfl (Nat.le_of_ble_eq_true rfl) (Nat.le_of_ble_eq_true rfl) (Nat.le_of_ble_eq_true rfl) (Nat.le_of_ble_eq_true rfl) (en_hdm (k0 := 4) [] [(0, 10, 17, 13), (0, 10, 21, 63)] rfl (fun _ h => nomatch h) (by decide +kernel) (by decide) t_739 n_750 dL_triangles_13) (by decide) rfl (fun h2480 f2481 w2482 => ?_)
  refine x_iconst (M := M_L_triangles) dL_triangles_15 ?_
  exact x_iret (M := M_L_triangles) dL_triangles_16 rfl ⟨rfl, (fr_tr f2481 (fun _ h => nomatch h) fr_rf), trivial⟩ (Nat.le_of_ble_eq_true rfl) (Nat.le_of_ble_eq_true rfl)
set_option maxRecDepth 10000 in
theorem q2496 {l : Launch} {E : EE} (hl : l.stackTraces = false) {h : HP} {a0 : Int32} {a1 : Int32} {dg : Int32} (c0 : a0.toInt < 0) (o2488 : ob h 277 = some (.inr (15, (RB dg)))) : en_C l E M_X12_triangles 1 0 0 [.ref 277, .int a0, .int a1] h (pF (some (.int (Int32.ofInt 0))) [277] h (fun h' => ob h' 277 = some (.inr (15, ((RB dg).set 0 (.int (Int32.ofInt 1))))) ∧ True)) := by
  refine en_mk m_X12_triangles rfl hl (Nat.le_of_ble_eq_true rfl) ?_
  refine x_aload_n (M := M_X12_triangles) dX12_triangles_0 rfl ?_
  refine x_iconst (M := M_X12_triangles) dX12_triangles_1 ?_
  refine y_put (M := M_X12_triangles) (ci := 15) (C := RX12) (T := TX12) (N := 135) (ty := tyX12) cl15 dX12_triangles_2 o2488 0 (by decide) t_2391 (Or.inl rfl) (Nat.le_of_ble_eq_true rfl) rfl (fun h2489 w2490 f2491 => ?_)
  refine x_aload_n (M := M_X12_triangles) dX12_triangles_5 rfl ?_
  refine x_iload_n (M := M_X12_triangles) dX12_triangles_6 rfl ?_
  refine x_callSR (M := M_X12_triangles) (M' := M_X12_isSlot) rfl rfl dX12_triangles_7 m_X12_isSlot t_2841 t_2842 (q411 hl c0) rfl rfl (Nat.le_of_ble_eq_true rfl) (Nat.le_of_ble_eq_true rfl) (Nat.le_of_ble_eq_true rfl) (Nat.le_of_ble_eq_true rfl) ?_
  refine x_if_eq (M := M_X12_triangles) (tgt := 20) dX12_triangles_10 (by decide) (fun _ => ?_) (fun q => absurd q (by decide +kernel))
  refine x_iconst (M := M_X12_triangles) dX12_triangles_20 ?_
  refine x_goto (M := M_X12_triangles) (tgt := 25) dX12_triangles_21 (by decide) ?_
  refine x_iconst (M := M_X12_triangles) dX12_triangles_25 ?_
  refine y_callVR (M := M_X12_triangles) (M' := M_X12_fails) rfl rfl dX12_triangles_26 m_X12_fails t_2805 t_2807 s_157 (q22 hl w2490) rfl rfl w2490 rfl (Nat.le_of_ble_eq_true rfl) (Nat.le_of_ble_eq_true rfl) (Nat.le_of_ble_eq_true rfl) (Nat.le_of_ble_eq_true rfl) (fun h2492 f2493 w2494 => ?_)
  obtain ⟨o2495, -⟩ := w2494
  refine x_if_ne (M := M_X12_triangles) (tgt := 74) dX12_triangles_29 (by decide) (fun _ => ?_) (fun q => absurd q (by decide +kernel))
  refine x_iconst (M := M_X12_triangles) dX12_triangles_74 ?_
  exact x_iret (M := M_X12_triangles) dX12_triangles_75 rfl ⟨rfl, (fr_tr f2493 (by decide) (fr_tr f2491 (by decide) fr_rf)), ⟨o2495, trivial⟩⟩ (Nat.le_of_ble_eq_true rfl) (Nat.le_of_ble_eq_true rfl)
set_option maxRecDepth 10000 in
theorem lc19_0 {l : Launch} {E : EE} (hl : l.stackTraces = false) (nm : String) {xs : Nat → Int32} (hx : E.2.2.2.2 0 = some (7, xs)) {h : HP} {a0 : Int32} {a1 : Int32} {dg : Int32} (e2 : xs 2 = a0) (e3 : xs 3 = a1) (c0 : a0.toInt < 0) (o2484 : ob h 32 = some (.inr (14, [.ref 33, .ref 162, .ref 166, .int (0 : Int32), .int (0 : Int32), .int (0 : Int32), .ref 167, .ref 170, .ref 173, .ref 177, .ref 193, .ref 208, .ref 222, .ref 238, .ref 252, .ref 274, .ref 275, .ref 276, .int (0 : Int32)]))) (o2497 : ob h 277 = some (.inr (15, (RB dg)))) : XX l E (M_law nm) 1312 342628 8074320 (fun o _ => o = .inl (some (.int 1))) 1426 [some (.ref 0), some (.ref 32), some (.ref 277), some (.ref 359), some (.int (Int32.ofInt 1)), none, none, none] [] h 328 2463747 := by
  refine x_aload_n (M := (M_law nm)) dL_law_1426 rfl ?_
  refine x_aload_n (M := (M_law nm)) dL_law_1427 rfl ?_
  refine x_iload (M := (M_law nm)) dL_law_1428 rfl ?_
  refine x_iconst (M := (M_law nm)) dL_law_1430 ?_
  refine x_iadd (M := (M_law nm)) dL_law_1431 ?_
  refine x_sald (M := (M_law nm)) dL_law_1432 (by decide) hx (vp_inD (by decide +kernel)) ?_
  refine x_top (M := (M_law nm)) (y := a0) ((congrArg xs (by decide +kernel : ((Int32.ofInt 1) + (Int32.ofInt 1)).toNatClampNeg = 2)).trans e2) ?_
  refine x_aload_n (M := (M_law nm)) dL_law_1433 rfl ?_
  refine x_iload (M := (M_law nm)) dL_law_1434 rfl ?_
  refine x_iconst (M := (M_law nm)) dL_law_1436 ?_
  refine x_iadd (M := (M_law nm)) dL_law_1437 ?_
  refine x_sald (M := (M_law nm)) dL_law_1438 (by decide) hx (vp_inD (by decide +kernel)) ?_
  refine x_top (M := (M_law nm)) (y := a1) ((congrArg xs (by decide +kernel : ((Int32.ofInt 1) + (Int32.ofInt 2)).toNatClampNeg = 3)).trans e3) ?_
  refine x_aload_n (M := (M_law nm)) dL_law_1439 rfl ?_
  refine y_callSW (M := (M_law nm)) (M' := M_L_triangles) rfl rfl dL_law_1440 m_L_triangles t_2122 t_2123 (q2483 hl c0 o2484) rfl rfl (Nat.le_of_ble_eq_true rfl) (Nat.le_of_ble_eq_true rfl) (Nat.le_of_ble_eq_true rfl) (Nat.le_of_ble_eq_true rfl) (fun h2485 f2486 w2487 => ?_)
  refine x_istore (M := (M_law nm)) dL_law_1443 (Nat.le_of_ble_eq_true rfl) rfl ?_
  refine x_aload_n (M := (M_law nm)) dL_law_1445 rfl ?_
  refine x_aload_n (M := (M_law nm)) dL_law_1446 rfl ?_
  refine x_iload (M := (M_law nm)) dL_law_1447 rfl ?_
  refine x_iconst (M := (M_law nm)) dL_law_1449 ?_
  refine x_iadd (M := (M_law nm)) dL_law_1450 ?_
  refine x_sald (M := (M_law nm)) dL_law_1451 (by decide) hx (vp_inD (by decide +kernel)) ?_
  refine x_top (M := (M_law nm)) (y := a0) ((congrArg xs (by decide +kernel : ((Int32.ofInt 1) + (Int32.ofInt 1)).toNatClampNeg = 2)).trans e2) ?_
  refine x_aload_n (M := (M_law nm)) dL_law_1452 rfl ?_
  refine x_iload (M := (M_law nm)) dL_law_1453 rfl ?_
  refine x_iconst (M := (M_law nm)) dL_law_1455 ?_
  refine x_iadd (M := (M_law nm)) dL_law_1456 ?_
  refine x_sald (M := (M_law nm)) dL_law_1457 (by decide) hx (vp_inD (by decide +kernel)) ?_
  refine x_top (M := (M_law nm)) (y := a1) ((congrArg xs (by decide +kernel : ((Int32.ofInt 1) + (Int32.ofInt 2)).toNatClampNeg = 3)).trans e3) ?_
  have o2498 := (f2486 277 _ (by decide) o2497)
  refine y_callVR (M := (M_law nm)) (M' := M_X12_triangles) rfl rfl dL_law_1458 m_X12_triangles t_3649 t_3650 t_3651 (q2496 hl c0 o2498) rfl rfl o2498 rfl (Nat.le_of_ble_eq_true rfl) (Nat.le_of_ble_eq_true rfl) (Nat.le_of_ble_eq_true rfl) (Nat.le_of_ble_eq_true rfl) (fun h2499 f2500 w2501 => ?_)
  obtain ⟨o2502, -⟩ := w2501
  refine x_istore (M := (M_law nm)) dL_law_1461 (Nat.le_of_ble_eq_true rfl) rfl ?_
  refine x_aload_n (M := (M_law nm)) dL_law_1463 rfl ?_
  refine x_callVR (M := (M_law nm)) (M' := M_X12_thrown) rfl rfl dL_law_1464 m_X12_thrown t_2797 t_2798 t_2799 (q35 hl o2502) rfl rfl o2502 rfl (Nat.le_of_ble_eq_true rfl) (Nat.le_of_ble_eq_true rfl) (Nat.le_of_ble_eq_true rfl) (Nat.le_of_ble_eq_true rfl) ?_
  refine x_iload (M := (M_law nm)) dL_law_1467 rfl ?_
  refine x_icmp_eq (M := (M_law nm)) (tgt := 1474) dL_law_1469 (by decide) (fun _ => ?_) (fun q => absurd q (by decide +kernel))
  refine x_iload (M := (M_law nm)) dL_law_1474 rfl ?_
  refine x_if_ne (M := (M_law nm)) (tgt := 1491) dL_law_1476 (by decide) (fun _ => ?_) (fun q => absurd q (by decide +kernel))
  refine x_goto (M := (M_law nm)) (tgt := 2449) dL_law_1491 (by decide) ?_
  refine x_iinc (M := (M_law nm)) dL_law_2449 rfl (Nat.le_of_ble_eq_true rfl) rfl ?_
  refine x_lvs (M := (M_law nm)) (lv' := [some (.ref 0), some (.ref 32), some (.ref 277), some (.ref 359), some (.int (Int32.ofInt 7)), some (.int (Int32.ofInt 1)), some (.int (Int32.ofInt 0)), none]) (by rw [(by decide +kernel : (Int32.ofInt 1) + Int32.ofInt 6 = (Int32.ofInt 7))] <;> rfl) ?_
  refine x_goto (M := (M_law nm)) (tgt := 33) dL_law_2452 (by decide) ?_
  refine x_iload (M := (M_law nm)) dL_law_33 rfl ?_
  refine x_aload_n (M := (M_law nm)) dL_law_35 rfl ?_
  refine x_slen (M := (M_law nm)) dL_law_36 (by decide) hx ?_
  refine x_bipush (M := (M_law nm)) dL_law_37 ?_
  refine x_isub (M := (M_law nm)) dL_law_39 ?_
  refine x_icmp_gt (M := (M_law nm)) (tgt := 2455) dL_law_40 (by decide) (fun _ => ?_) (fun q => absurd q (by decide +kernel))
  refine x_iconst (M := (M_law nm)) dL_law_2455 ?_
  exact x_zret (M := (M_law nm)) dL_law_2456 rfl (by decide) rfl (Nat.le_of_ble_eq_true rfl) (Nat.le_of_ble_eq_true rfl)
set_option maxRecDepth 10000 in
theorem q2510 {l : Launch} {E : EE} (hl : l.stackTraces = false) {h : HP} {a0 : Int32} {a1 : Int32} (c0 : ¬ (a0.toInt < 0)) (c1 : a0.toInt < 32) (c2 : a1.toInt < 0) (o2505 : ob h 32 = some (.inr (14, [.ref 33, .ref 162, .ref 166, .int (0 : Int32), .int (0 : Int32), .int (0 : Int32), .ref 167, .ref 170, .ref 173, .ref 177, .ref 193, .ref 208, .ref 222, .ref 238, .ref 252, .ref 274, .ref 275, .ref 276, .int (0 : Int32)]))) (o2506 : ob h 33 = some (.inl (4, 32, .inr (.inr (.inr (.inr (shf 1 32))))))) : en_C l E M_X11_triangles 7 1 6 [.ref 32, .int a0, .int a1] h (pT "java/lang/IndexOutOfBoundsException" [] h (fun _ => True)) := by
  refine en_mk m_X11_triangles rfl hl (Nat.le_of_ble_eq_true rfl) ?_
  refine x_aload_n (M := M_X11_triangles) dX11_triangles_0 rfl ?_
  refine x_iload_n (M := M_X11_triangles) dX11_triangles_1 rfl ?_
  refine x_callVR (M := M_X11_triangles) (M' := M_X11_slotNumbered) rfl rfl dX11_triangles_2 m_X11_slotNumbered t_744 t_746 s_2 (q425 hl c0 c1 o2505 o2506) rfl rfl o2505 rfl (Nat.le_of_ble_eq_true rfl) (Nat.le_of_ble_eq_true rfl) (Nat.le_of_ble_eq_true rfl) (Nat.le_of_ble_eq_true rfl) ?_
  refine x_astore_n (M := M_X11_triangles) dX11_triangles_5 (Nat.le_of_ble_eq_true rfl) rfl ?_
  refine x_aload_n (M := M_X11_triangles) dX11_triangles_6 rfl ?_
  refine x_iload_n (M := M_X11_triangles) dX11_triangles_7 rfl ?_
  exact y_callVX (M := M_X11_triangles) (M' := M_X11_slotNumbered) rfl rfl dX11_triangles_8 m_X11_slotNumbered t_744 t_746 s_2 (q1465 hl c2) rfl rfl o2505 rfl (Nat.le_of_ble_eq_true rfl) (Nat.le_of_ble_eq_true rfl) (Nat.le_of_ble_eq_true rfl) (Nat.le_of_ble_eq_true rfl) (fun h2507 f2508 w2509 => ⟨rfl, (fr_tr f2508 (fun _ h => nomatch h) fr_rf), trivial⟩)
set_option maxRecDepth 10000 in
theorem q2516 {l : Launch} {E : EE} (hl : l.stackTraces = false) {h : HP} {a0 : Int32} {a1 : Int32} (c0 : ¬ (a0.toInt < 0)) (c1 : a0.toInt < 32) (c2 : a1.toInt < 0) (o2511 : ob h 32 = some (.inr (14, [.ref 33, .ref 162, .ref 166, .int (0 : Int32), .int (0 : Int32), .int (0 : Int32), .ref 167, .ref 170, .ref 173, .ref 177, .ref 193, .ref 208, .ref 222, .ref 238, .ref 252, .ref 274, .ref 275, .ref 276, .int (0 : Int32)]))) (o2512 : ob h 33 = some (.inl (4, 32, .inr (.inr (.inr (.inr (shf 1 32))))))) : en_C l E M_L_triangles 8 1 6 [.ref 32, .int a0, .int a1, .ref 359] h (pF (some (.int (Int32.ofInt 1))) [] h (fun _ => True)) := by
  refine en_mkW m_L_triangles rfl hl (Nat.le_of_ble_eq_true rfl) ?_
  refine x_aload_n (M := M_L_triangles) dL_triangles_0 rfl ?_
  refine x_iconst (M := M_L_triangles) dL_triangles_1 ?_
  refine x_aload_n (M := M_L_triangles) dL_triangles_2 rfl ?_
  refine x_iload_n (M := M_L_triangles) dL_triangles_3 rfl ?_
  refine x_iload_n (M := M_L_triangles) dL_triangles_4 rfl ?_
  refine y_callVHX (M := M_L_triangles) (M' := M_X11_triangles) (i9 := 4) (nx := 15) rfl dL_triangles_5 m_X11_triangles t_2125 t_2126 t_2127 o2511 rfl (q2510 hl c0 c1 c2 o2511 o2512) rfl rfl (Nat.le_of_ble_eq_true rfl) (Nat.le_of_ble_eq_true rfl) (Nat.le_of_ble_eq_true rfl) (Nat.le_of_ble_eq_true rfl) (en_hdm (k0 := 4) [] [(0, 10, 17, 13), (0, 10, 21, 63)] rfl (fun _ h => nomatch h) (by decide +kernel) (by decide) t_739 n_750 dL_triangles_13) (by decide) rfl (fun h2513 f2514 w2515 => ?_)
  refine x_iconst (M := M_L_triangles) dL_triangles_15 ?_
  exact x_iret (M := M_L_triangles) dL_triangles_16 rfl ⟨rfl, (fr_tr f2514 (fun _ h => nomatch h) fr_rf), trivial⟩ (Nat.le_of_ble_eq_true rfl) (Nat.le_of_ble_eq_true rfl)
set_option maxRecDepth 10000 in
theorem q2530 {l : Launch} {E : EE} (hl : l.stackTraces = false) {h : HP} {a0 : Int32} {a1 : Int32} {dg : Int32} (c0 : ¬ (a0.toInt < 0)) (c1 : a0.toInt < 32) (c2 : a1.toInt < 0) (o2522 : ob h 277 = some (.inr (15, (RB dg)))) : en_C l E M_X12_triangles 1 0 0 [.ref 277, .int a0, .int a1] h (pF (some (.int (Int32.ofInt 0))) [277] h (fun h' => ob h' 277 = some (.inr (15, ((RB dg).set 0 (.int (Int32.ofInt 1))))) ∧ True)) := by
  refine en_mk m_X12_triangles rfl hl (Nat.le_of_ble_eq_true rfl) ?_
  refine x_aload_n (M := M_X12_triangles) dX12_triangles_0 rfl ?_
  refine x_iconst (M := M_X12_triangles) dX12_triangles_1 ?_
  refine y_put (M := M_X12_triangles) (ci := 15) (C := RX12) (T := TX12) (N := 135) (ty := tyX12) cl15 dX12_triangles_2 o2522 0 (by decide) t_2391 (Or.inl rfl) (Nat.le_of_ble_eq_true rfl) rfl (fun h2523 w2524 f2525 => ?_)
  refine x_aload_n (M := M_X12_triangles) dX12_triangles_5 rfl ?_
  refine x_iload_n (M := M_X12_triangles) dX12_triangles_6 rfl ?_
  refine x_callSR (M := M_X12_triangles) (M' := M_X12_isSlot) rfl rfl dX12_triangles_7 m_X12_isSlot t_2841 t_2842 (q447 hl c0 c1) rfl rfl (Nat.le_of_ble_eq_true rfl) (Nat.le_of_ble_eq_true rfl) (Nat.le_of_ble_eq_true rfl) (Nat.le_of_ble_eq_true rfl) ?_
  refine x_if_eq (M := M_X12_triangles) (tgt := 20) dX12_triangles_10 (by decide) (fun q => absurd q (by decide +kernel)) (fun _ => ?_)
  refine x_iload_n (M := M_X12_triangles) dX12_triangles_13 rfl ?_
  refine x_callSR (M := M_X12_triangles) (M' := M_X12_isSlot) rfl rfl dX12_triangles_14 m_X12_isSlot t_2841 t_2842 (q1485 hl c2) rfl rfl (Nat.le_of_ble_eq_true rfl) (Nat.le_of_ble_eq_true rfl) (Nat.le_of_ble_eq_true rfl) (Nat.le_of_ble_eq_true rfl) ?_
  refine x_if_ne (M := M_X12_triangles) (tgt := 24) dX12_triangles_17 (by decide) (fun q => absurd q (by decide +kernel)) (fun _ => ?_)
  refine x_iconst (M := M_X12_triangles) dX12_triangles_20 ?_
  refine x_goto (M := M_X12_triangles) (tgt := 25) dX12_triangles_21 (by decide) ?_
  refine x_iconst (M := M_X12_triangles) dX12_triangles_25 ?_
  refine y_callVR (M := M_X12_triangles) (M' := M_X12_fails) rfl rfl dX12_triangles_26 m_X12_fails t_2805 t_2807 s_157 (q22 hl w2524) rfl rfl w2524 rfl (Nat.le_of_ble_eq_true rfl) (Nat.le_of_ble_eq_true rfl) (Nat.le_of_ble_eq_true rfl) (Nat.le_of_ble_eq_true rfl) (fun h2526 f2527 w2528 => ?_)
  obtain ⟨o2529, -⟩ := w2528
  refine x_if_ne (M := M_X12_triangles) (tgt := 74) dX12_triangles_29 (by decide) (fun _ => ?_) (fun q => absurd q (by decide +kernel))
  refine x_iconst (M := M_X12_triangles) dX12_triangles_74 ?_
  exact x_iret (M := M_X12_triangles) dX12_triangles_75 rfl ⟨rfl, (fr_tr f2527 (by decide) (fr_tr f2525 (by decide) fr_rf)), ⟨o2529, trivial⟩⟩ (Nat.le_of_ble_eq_true rfl) (Nat.le_of_ble_eq_true rfl)
set_option maxRecDepth 10000 in
theorem lc19_1 {l : Launch} {E : EE} (hl : l.stackTraces = false) (nm : String) {xs : Nat → Int32} (hx : E.2.2.2.2 0 = some (7, xs)) {h : HP} {a0 : Int32} {a1 : Int32} {dg : Int32} (e2 : xs 2 = a0) (e3 : xs 3 = a1) (c0 : ¬ (a0.toInt < 0)) (c1 : a0.toInt < 32) (c2 : a1.toInt < 0) (o2517 : ob h 32 = some (.inr (14, [.ref 33, .ref 162, .ref 166, .int (0 : Int32), .int (0 : Int32), .int (0 : Int32), .ref 167, .ref 170, .ref 173, .ref 177, .ref 193, .ref 208, .ref 222, .ref 238, .ref 252, .ref 274, .ref 275, .ref 276, .int (0 : Int32)]))) (o2518 : ob h 33 = some (.inl (4, 32, .inr (.inr (.inr (.inr (shf 1 32))))))) (o2531 : ob h 277 = some (.inr (15, (RB dg)))) : XX l E (M_law nm) 1312 342628 8074320 (fun o _ => o = .inl (some (.int 1))) 1426 [some (.ref 0), some (.ref 32), some (.ref 277), some (.ref 359), some (.int (Int32.ofInt 1)), none, none, none] [] h 328 2463747 := by
  refine x_aload_n (M := (M_law nm)) dL_law_1426 rfl ?_
  refine x_aload_n (M := (M_law nm)) dL_law_1427 rfl ?_
  refine x_iload (M := (M_law nm)) dL_law_1428 rfl ?_
  refine x_iconst (M := (M_law nm)) dL_law_1430 ?_
  refine x_iadd (M := (M_law nm)) dL_law_1431 ?_
  refine x_sald (M := (M_law nm)) dL_law_1432 (by decide) hx (vp_inD (by decide +kernel)) ?_
  refine x_top (M := (M_law nm)) (y := a0) ((congrArg xs (by decide +kernel : ((Int32.ofInt 1) + (Int32.ofInt 1)).toNatClampNeg = 2)).trans e2) ?_
  refine x_aload_n (M := (M_law nm)) dL_law_1433 rfl ?_
  refine x_iload (M := (M_law nm)) dL_law_1434 rfl ?_
  refine x_iconst (M := (M_law nm)) dL_law_1436 ?_
  refine x_iadd (M := (M_law nm)) dL_law_1437 ?_
  refine x_sald (M := (M_law nm)) dL_law_1438 (by decide) hx (vp_inD (by decide +kernel)) ?_
  refine x_top (M := (M_law nm)) (y := a1) ((congrArg xs (by decide +kernel : ((Int32.ofInt 1) + (Int32.ofInt 2)).toNatClampNeg = 3)).trans e3) ?_
  refine x_aload_n (M := (M_law nm)) dL_law_1439 rfl ?_
  refine y_callSW (M := (M_law nm)) (M' := M_L_triangles) rfl rfl dL_law_1440 m_L_triangles t_2122 t_2123 (q2516 hl c0 c1 c2 o2517 o2518) rfl rfl (Nat.le_of_ble_eq_true rfl) (Nat.le_of_ble_eq_true rfl) (Nat.le_of_ble_eq_true rfl) (Nat.le_of_ble_eq_true rfl) (fun h2519 f2520 w2521 => ?_)
  refine x_istore (M := (M_law nm)) dL_law_1443 (Nat.le_of_ble_eq_true rfl) rfl ?_
  refine x_aload_n (M := (M_law nm)) dL_law_1445 rfl ?_
  refine x_aload_n (M := (M_law nm)) dL_law_1446 rfl ?_
  refine x_iload (M := (M_law nm)) dL_law_1447 rfl ?_
  refine x_iconst (M := (M_law nm)) dL_law_1449 ?_
  refine x_iadd (M := (M_law nm)) dL_law_1450 ?_
  refine x_sald (M := (M_law nm)) dL_law_1451 (by decide) hx (vp_inD (by decide +kernel)) ?_
  refine x_top (M := (M_law nm)) (y := a0) ((congrArg xs (by decide +kernel : ((Int32.ofInt 1) + (Int32.ofInt 1)).toNatClampNeg = 2)).trans e2) ?_
  refine x_aload_n (M := (M_law nm)) dL_law_1452 rfl ?_
  refine x_iload (M := (M_law nm)) dL_law_1453 rfl ?_
  refine x_iconst (M := (M_law nm)) dL_law_1455 ?_
  refine x_iadd (M := (M_law nm)) dL_law_1456 ?_
  refine x_sald (M := (M_law nm)) dL_law_1457 (by decide) hx (vp_inD (by decide +kernel)) ?_
  refine x_top (M := (M_law nm)) (y := a1) ((congrArg xs (by decide +kernel : ((Int32.ofInt 1) + (Int32.ofInt 2)).toNatClampNeg = 3)).trans e3) ?_
  have o2532 := (f2520 277 _ (by decide) o2531)
  refine y_callVR (M := (M_law nm)) (M' := M_X12_triangles) rfl rfl dL_law_1458 m_X12_triangles t_3649 t_3650 t_3651 (q2530 hl c0 c1 c2 o2532) rfl rfl o2532 rfl (Nat.le_of_ble_eq_true rfl) (Nat.le_of_ble_eq_true rfl) (Nat.le_of_ble_eq_true rfl) (Nat.le_of_ble_eq_true rfl) (fun h2533 f2534 w2535 => ?_)
  obtain ⟨o2536, -⟩ := w2535
  refine x_istore (M := (M_law nm)) dL_law_1461 (Nat.le_of_ble_eq_true rfl) rfl ?_
  refine x_aload_n (M := (M_law nm)) dL_law_1463 rfl ?_
  refine x_callVR (M := (M_law nm)) (M' := M_X12_thrown) rfl rfl dL_law_1464 m_X12_thrown t_2797 t_2798 t_2799 (q35 hl o2536) rfl rfl o2536 rfl (Nat.le_of_ble_eq_true rfl) (Nat.le_of_ble_eq_true rfl) (Nat.le_of_ble_eq_true rfl) (Nat.le_of_ble_eq_true rfl) ?_
  refine x_iload (M := (M_law nm)) dL_law_1467 rfl ?_
  refine x_icmp_eq (M := (M_law nm)) (tgt := 1474) dL_law_1469 (by decide) (fun _ => ?_) (fun q => absurd q (by decide +kernel))
  refine x_iload (M := (M_law nm)) dL_law_1474 rfl ?_
  refine x_if_ne (M := (M_law nm)) (tgt := 1491) dL_law_1476 (by decide) (fun _ => ?_) (fun q => absurd q (by decide +kernel))
  refine x_goto (M := (M_law nm)) (tgt := 2449) dL_law_1491 (by decide) ?_
  refine x_iinc (M := (M_law nm)) dL_law_2449 rfl (Nat.le_of_ble_eq_true rfl) rfl ?_
  refine x_lvs (M := (M_law nm)) (lv' := [some (.ref 0), some (.ref 32), some (.ref 277), some (.ref 359), some (.int (Int32.ofInt 7)), some (.int (Int32.ofInt 1)), some (.int (Int32.ofInt 0)), none]) (by rw [(by decide +kernel : (Int32.ofInt 1) + Int32.ofInt 6 = (Int32.ofInt 7))] <;> rfl) ?_
  refine x_goto (M := (M_law nm)) (tgt := 33) dL_law_2452 (by decide) ?_
  refine x_iload (M := (M_law nm)) dL_law_33 rfl ?_
  refine x_aload_n (M := (M_law nm)) dL_law_35 rfl ?_
  refine x_slen (M := (M_law nm)) dL_law_36 (by decide) hx ?_
  refine x_bipush (M := (M_law nm)) dL_law_37 ?_
  refine x_isub (M := (M_law nm)) dL_law_39 ?_
  refine x_icmp_gt (M := (M_law nm)) (tgt := 2455) dL_law_40 (by decide) (fun _ => ?_) (fun q => absurd q (by decide +kernel))
  refine x_iconst (M := (M_law nm)) dL_law_2455 ?_
  exact x_zret (M := (M_law nm)) dL_law_2456 rfl (by decide) rfl (Nat.le_of_ble_eq_true rfl) (Nat.le_of_ble_eq_true rfl)
set_option maxRecDepth 10000 in
theorem q2545 {l : Launch} {E : EE} (hl : l.stackTraces = false) {h : HP} {a0 : Int32} {a1 : Int32} (c0 : ¬ (a0.toInt < 0)) (c1 : a0.toInt < 32) (c2 : ¬ (a1.toInt < 0)) (c3 : a1.toInt < 32) (o2539 : ob h 32 = some (.inr (14, [.ref 33, .ref 162, .ref 166, .int (0 : Int32), .int (0 : Int32), .int (0 : Int32), .ref 167, .ref 170, .ref 173, .ref 177, .ref 193, .ref 208, .ref 222, .ref 238, .ref 252, .ref 274, .ref 275, .ref 276, .int (0 : Int32)]))) (o2540 : ob h 33 = some (.inl (4, 32, .inr (.inr (.inr (.inr (shf 1 32))))))) (o2541 : ob h (34 + 4 * a0.toNatClampNeg) = some (.inr (9, [.ref (35 + 4 * a0.toNatClampNeg), .ref (36 + 4 * a0.toNatClampNeg), .ref (37 + 4 * a0.toNatClampNeg), .int (0 : Int32), .int (0 : Int32)]))) : en_C l E M_X11_triangles 7 1 6 [.ref 32, .int a0, .int a1] h (pT "java/lang/IllegalStateException" [] h (fun _ => True)) := by
  have n_a0 : a0.toNatClampNeg < 32 := nc_lt (by omega) (by decide)
  refine en_mk m_X11_triangles rfl hl (Nat.le_of_ble_eq_true rfl) ?_
  refine x_aload_n (M := M_X11_triangles) dX11_triangles_0 rfl ?_
  refine x_iload_n (M := M_X11_triangles) dX11_triangles_1 rfl ?_
  refine x_callVR (M := M_X11_triangles) (M' := M_X11_slotNumbered) rfl rfl dX11_triangles_2 m_X11_slotNumbered t_744 t_746 s_2 (q425 hl c0 c1 o2539 o2540) rfl rfl o2539 rfl (Nat.le_of_ble_eq_true rfl) (Nat.le_of_ble_eq_true rfl) (Nat.le_of_ble_eq_true rfl) (Nat.le_of_ble_eq_true rfl) ?_
  refine x_astore_n (M := M_X11_triangles) dX11_triangles_5 (Nat.le_of_ble_eq_true rfl) rfl ?_
  refine x_aload_n (M := M_X11_triangles) dX11_triangles_6 rfl ?_
  refine x_iload_n (M := M_X11_triangles) dX11_triangles_7 rfl ?_
  refine x_callVR (M := M_X11_triangles) (M' := M_X11_slotNumbered) rfl rfl dX11_triangles_8 m_X11_slotNumbered t_744 t_746 s_2 (q1503 hl c2 c3 o2539 o2540) rfl rfl o2539 rfl (Nat.le_of_ble_eq_true rfl) (Nat.le_of_ble_eq_true rfl) (Nat.le_of_ble_eq_true rfl) (Nat.le_of_ble_eq_true rfl) ?_
  refine x_astore (M := M_X11_triangles) dX11_triangles_11 (Nat.le_of_ble_eq_true rfl) rfl ?_
  refine x_aload_n (M := M_X11_triangles) dX11_triangles_13 rfl ?_
  exact y_callSX (M := M_X11_triangles) (M' := M_X11_mustBeThere) rfl rfl dX11_triangles_14 m_X11_mustBeThere t_1047 t_1048 (q810 hl c0 c1 o2541) rfl rfl (Nat.le_of_ble_eq_true rfl) (Nat.le_of_ble_eq_true rfl) (Nat.le_of_ble_eq_true rfl) (Nat.le_of_ble_eq_true rfl) (fun h2542 f2543 w2544 => ⟨rfl, (fr_tr f2543 (fun _ h => nomatch h) fr_rf), trivial⟩)
set_option maxRecDepth 10000 in
theorem q2552 {l : Launch} {E : EE} (hl : l.stackTraces = false) {h : HP} {a0 : Int32} {a1 : Int32} (c0 : ¬ (a0.toInt < 0)) (c1 : a0.toInt < 32) (c2 : ¬ (a1.toInt < 0)) (c3 : a1.toInt < 32) (o2546 : ob h 32 = some (.inr (14, [.ref 33, .ref 162, .ref 166, .int (0 : Int32), .int (0 : Int32), .int (0 : Int32), .ref 167, .ref 170, .ref 173, .ref 177, .ref 193, .ref 208, .ref 222, .ref 238, .ref 252, .ref 274, .ref 275, .ref 276, .int (0 : Int32)]))) (o2547 : ob h 33 = some (.inl (4, 32, .inr (.inr (.inr (.inr (shf 1 32))))))) (o2548 : ob h (34 + 4 * a0.toNatClampNeg) = some (.inr (9, [.ref (35 + 4 * a0.toNatClampNeg), .ref (36 + 4 * a0.toNatClampNeg), .ref (37 + 4 * a0.toNatClampNeg), .int (0 : Int32), .int (0 : Int32)]))) : en_C l E M_L_triangles 8 1 6 [.ref 32, .int a0, .int a1, .ref 359] h (pF (some (.int (Int32.ofInt 2))) [] h (fun _ => True)) := by
  have n_a0 : a0.toNatClampNeg < 32 := nc_lt (by omega) (by decide)
  refine en_mkW m_L_triangles rfl hl (Nat.le_of_ble_eq_true rfl) ?_
  refine x_aload_n (M := M_L_triangles) dL_triangles_0 rfl ?_
  refine x_iconst (M := M_L_triangles) dL_triangles_1 ?_
  refine x_aload_n (M := M_L_triangles) dL_triangles_2 rfl ?_
  refine x_iload_n (M := M_L_triangles) dL_triangles_3 rfl ?_
  refine x_iload_n (M := M_L_triangles) dL_triangles_4 rfl ?_
  refine y_callVHX (M := M_L_triangles) (M' := M_X11_triangles) (i9 := 4) (nx := 19) rfl dL_triangles_5 m_X11_triangles t_2125 t_2126 t_2127 o2546 rfl (q2545 hl c0 c1 c2 c3 o2546 o2547 o2548) rfl rfl (Nat.le_of_ble_eq_true rfl) (Nat.le_of_ble_eq_true rfl) (Nat.le_of_ble_eq_true rfl) (Nat.le_of_ble_eq_true rfl) (en_hdm (k0 := 4) [(0, 10, 13, 24)] [(0, 10, 21, 63)] rfl (List.forall_mem_cons.mpr ⟨⟨by decide, "java/lang/IndexOutOfBoundsException", t_739, by decide +kernel, by decide +kernel, by decide +kernel⟩, (fun _ h => nomatch h)⟩) (by decide +kernel) (by decide) t_637 n_645 dL_triangles_17) (by decide) rfl (fun h2549 f2550 w2551 => ?_)
  refine x_iconst (M := M_L_triangles) dL_triangles_19 ?_
  exact x_iret (M := M_L_triangles) dL_triangles_20 rfl ⟨rfl, (fr_tr f2550 (fun _ h => nomatch h) fr_rf), trivial⟩ (Nat.le_of_ble_eq_true rfl) (Nat.le_of_ble_eq_true rfl)
set_option maxRecDepth 10000 in
theorem q2573 {l : Launch} {E : EE} (hl : l.stackTraces = false) {h : HP} {a0 : Int32} {a1 : Int32} {dg : Int32} (c0 : ¬ (a0.toInt < 0)) (c1 : a0.toInt < 32) (c2 : ¬ (a1.toInt < 0)) (c3 : a1.toInt < 32) (o2559 : ob h 277 = some (.inr (15, (RB dg)))) (o2567 : ob h 280 = some (.inl (0, 33, .inl (fun _ => 0)))) : en_C l E M_X12_triangles 1 0 0 [.ref 277, .int a0, .int a1] h (pF (some (.int (Int32.ofInt 0))) [277] h (fun h' => ob h' 277 = some (.inr (15, ((RB dg).set 0 (.int (Int32.ofInt 2))))) ∧ True)) := by
  refine en_mk m_X12_triangles rfl hl (Nat.le_of_ble_eq_true rfl) ?_
  refine x_aload_n (M := M_X12_triangles) dX12_triangles_0 rfl ?_
  refine x_iconst (M := M_X12_triangles) dX12_triangles_1 ?_
  refine y_put (M := M_X12_triangles) (ci := 15) (C := RX12) (T := TX12) (N := 135) (ty := tyX12) cl15 dX12_triangles_2 o2559 0 (by decide) t_2391 (Or.inl rfl) (Nat.le_of_ble_eq_true rfl) rfl (fun h2560 w2561 f2562 => ?_)
  refine x_aload_n (M := M_X12_triangles) dX12_triangles_5 rfl ?_
  refine x_iload_n (M := M_X12_triangles) dX12_triangles_6 rfl ?_
  refine x_callSR (M := M_X12_triangles) (M' := M_X12_isSlot) rfl rfl dX12_triangles_7 m_X12_isSlot t_2841 t_2842 (q447 hl c0 c1) rfl rfl (Nat.le_of_ble_eq_true rfl) (Nat.le_of_ble_eq_true rfl) (Nat.le_of_ble_eq_true rfl) (Nat.le_of_ble_eq_true rfl) ?_
  refine x_if_eq (M := M_X12_triangles) (tgt := 20) dX12_triangles_10 (by decide) (fun q => absurd q (by decide +kernel)) (fun _ => ?_)
  refine x_iload_n (M := M_X12_triangles) dX12_triangles_13 rfl ?_
  refine x_callSR (M := M_X12_triangles) (M' := M_X12_isSlot) rfl rfl dX12_triangles_14 m_X12_isSlot t_2841 t_2842 (q1536 hl c2 c3) rfl rfl (Nat.le_of_ble_eq_true rfl) (Nat.le_of_ble_eq_true rfl) (Nat.le_of_ble_eq_true rfl) (Nat.le_of_ble_eq_true rfl) ?_
  refine x_if_ne (M := M_X12_triangles) (tgt := 24) dX12_triangles_17 (by decide) (fun _ => ?_) (fun q => absurd q (by decide +kernel))
  refine x_iconst (M := M_X12_triangles) dX12_triangles_24 ?_
  refine x_iconst (M := M_X12_triangles) dX12_triangles_25 ?_
  refine y_callVR (M := M_X12_triangles) (M' := M_X12_fails) rfl rfl dX12_triangles_26 m_X12_fails t_2805 t_2807 s_157 (q241 hl w2561) rfl rfl w2561 rfl (Nat.le_of_ble_eq_true rfl) (Nat.le_of_ble_eq_true rfl) (Nat.le_of_ble_eq_true rfl) (Nat.le_of_ble_eq_true rfl) (fun h2563 f2564 w2565 => ?_)
  obtain ⟨o2566, -⟩ := w2565
  refine x_if_ne (M := M_X12_triangles) (tgt := 74) dX12_triangles_29 (by decide) (fun q => absurd q (by decide +kernel)) (fun _ => ?_)
  refine x_aload_n (M := M_X12_triangles) dX12_triangles_32 rfl ?_
  refine x_aload_n (M := M_X12_triangles) dX12_triangles_33 rfl ?_
  refine x_iload_n (M := M_X12_triangles) dX12_triangles_34 rfl ?_
  have o2568 := (f2564 280 _ (by decide) (f2562 280 _ (by decide) o2567))
  refine x_callVR (M := M_X12_triangles) (M' := M_X12_has) rfl rfl dX12_triangles_35 m_X12_has t_3033 t_3035 s_197 (q839 hl c0 c1 o2566 o2568) rfl rfl o2566 rfl (Nat.le_of_ble_eq_true rfl) (Nat.le_of_ble_eq_true rfl) (Nat.le_of_ble_eq_true rfl) (Nat.le_of_ble_eq_true rfl) ?_
  refine x_if_ne (M := M_X12_triangles) (tgt := 45) dX12_triangles_38 (by decide) (fun q => absurd q (by decide +kernel)) (fun _ => ?_)
  refine x_iconst (M := M_X12_triangles) dX12_triangles_41 ?_
  refine x_goto (M := M_X12_triangles) (tgt := 46) dX12_triangles_42 (by decide) ?_
  refine x_iconst (M := M_X12_triangles) dX12_triangles_46 ?_
  refine y_callVR (M := M_X12_triangles) (M' := M_X12_fails) rfl rfl dX12_triangles_47 m_X12_fails t_2805 t_2807 s_157 (q761 hl o2566) rfl rfl o2566 rfl (Nat.le_of_ble_eq_true rfl) (Nat.le_of_ble_eq_true rfl) (Nat.le_of_ble_eq_true rfl) (Nat.le_of_ble_eq_true rfl) (fun h2569 f2570 w2571 => ?_)
  obtain ⟨o2572, -⟩ := w2571
  refine x_if_ne (M := M_X12_triangles) (tgt := 74) dX12_triangles_50 (by decide) (fun _ => ?_) (fun q => absurd q (by decide +kernel))
  refine x_iconst (M := M_X12_triangles) dX12_triangles_74 ?_
  exact x_iret (M := M_X12_triangles) dX12_triangles_75 rfl ⟨rfl, (fr_tr f2570 (by decide) (fr_tr f2564 (by decide) (fr_tr f2562 (by decide) fr_rf))), ⟨o2572, trivial⟩⟩ (Nat.le_of_ble_eq_true rfl) (Nat.le_of_ble_eq_true rfl)
set_option maxRecDepth 10000 in
theorem lc19_2 {l : Launch} {E : EE} (hl : l.stackTraces = false) (nm : String) {xs : Nat → Int32} (hx : E.2.2.2.2 0 = some (7, xs)) {h : HP} {a0 : Int32} {a1 : Int32} {dg : Int32} (e2 : xs 2 = a0) (e3 : xs 3 = a1) (c0 : ¬ (a0.toInt < 0)) (c1 : a0.toInt < 32) (c2 : ¬ (a1.toInt < 0)) (c3 : a1.toInt < 32) (o2553 : ob h 32 = some (.inr (14, [.ref 33, .ref 162, .ref 166, .int (0 : Int32), .int (0 : Int32), .int (0 : Int32), .ref 167, .ref 170, .ref 173, .ref 177, .ref 193, .ref 208, .ref 222, .ref 238, .ref 252, .ref 274, .ref 275, .ref 276, .int (0 : Int32)]))) (o2554 : ob h 33 = some (.inl (4, 32, .inr (.inr (.inr (.inr (shf 1 32))))))) (o2555 : ob h (34 + 4 * a0.toNatClampNeg) = some (.inr (9, [.ref (35 + 4 * a0.toNatClampNeg), .ref (36 + 4 * a0.toNatClampNeg), .ref (37 + 4 * a0.toNatClampNeg), .int (0 : Int32), .int (0 : Int32)]))) (o2574 : ob h 277 = some (.inr (15, (RB dg)))) (o2576 : ob h 280 = some (.inl (0, 33, .inl (fun _ => 0)))) : XX l E (M_law nm) 1312 342628 8074320 (fun o _ => o = .inl (some (.int 1))) 1426 [some (.ref 0), some (.ref 32), some (.ref 277), some (.ref 359), some (.int (Int32.ofInt 1)), none, none, none] [] h 328 2463747 := by
  have n_a0 : a0.toNatClampNeg < 32 := nc_lt (by omega) (by decide)
  refine x_aload_n (M := (M_law nm)) dL_law_1426 rfl ?_
  refine x_aload_n (M := (M_law nm)) dL_law_1427 rfl ?_
  refine x_iload (M := (M_law nm)) dL_law_1428 rfl ?_
  refine x_iconst (M := (M_law nm)) dL_law_1430 ?_
  refine x_iadd (M := (M_law nm)) dL_law_1431 ?_
  refine x_sald (M := (M_law nm)) dL_law_1432 (by decide) hx (vp_inD (by decide +kernel)) ?_
  refine x_top (M := (M_law nm)) (y := a0) ((congrArg xs (by decide +kernel : ((Int32.ofInt 1) + (Int32.ofInt 1)).toNatClampNeg = 2)).trans e2) ?_
  refine x_aload_n (M := (M_law nm)) dL_law_1433 rfl ?_
  refine x_iload (M := (M_law nm)) dL_law_1434 rfl ?_
  refine x_iconst (M := (M_law nm)) dL_law_1436 ?_
  refine x_iadd (M := (M_law nm)) dL_law_1437 ?_
  refine x_sald (M := (M_law nm)) dL_law_1438 (by decide) hx (vp_inD (by decide +kernel)) ?_
  refine x_top (M := (M_law nm)) (y := a1) ((congrArg xs (by decide +kernel : ((Int32.ofInt 1) + (Int32.ofInt 2)).toNatClampNeg = 3)).trans e3) ?_
  refine x_aload_n (M := (M_law nm)) dL_law_1439 rfl ?_
  refine y_callSW (M := (M_law nm)) (M' := M_L_triangles) rfl rfl dL_law_1440 m_L_triangles t_2122 t_2123 (q2552 hl c0 c1 c2 c3 o2553 o2554 o2555) rfl rfl (Nat.le_of_ble_eq_true rfl) (Nat.le_of_ble_eq_true rfl) (Nat.le_of_ble_eq_true rfl) (Nat.le_of_ble_eq_true rfl) (fun h2556 f2557 w2558 => ?_)
  refine x_istore (M := (M_law nm)) dL_law_1443 (Nat.le_of_ble_eq_true rfl) rfl ?_
  refine x_aload_n (M := (M_law nm)) dL_law_1445 rfl ?_
  refine x_aload_n (M := (M_law nm)) dL_law_1446 rfl ?_
  refine x_iload (M := (M_law nm)) dL_law_1447 rfl ?_
  refine x_iconst (M := (M_law nm)) dL_law_1449 ?_
  refine x_iadd (M := (M_law nm)) dL_law_1450 ?_
  refine x_sald (M := (M_law nm)) dL_law_1451 (by decide) hx (vp_inD (by decide +kernel)) ?_
  refine x_top (M := (M_law nm)) (y := a0) ((congrArg xs (by decide +kernel : ((Int32.ofInt 1) + (Int32.ofInt 1)).toNatClampNeg = 2)).trans e2) ?_
  refine x_aload_n (M := (M_law nm)) dL_law_1452 rfl ?_
  refine x_iload (M := (M_law nm)) dL_law_1453 rfl ?_
  refine x_iconst (M := (M_law nm)) dL_law_1455 ?_
  refine x_iadd (M := (M_law nm)) dL_law_1456 ?_
  refine x_sald (M := (M_law nm)) dL_law_1457 (by decide) hx (vp_inD (by decide +kernel)) ?_
  refine x_top (M := (M_law nm)) (y := a1) ((congrArg xs (by decide +kernel : ((Int32.ofInt 1) + (Int32.ofInt 2)).toNatClampNeg = 3)).trans e3) ?_
  have o2575 := (f2557 277 _ (by decide) o2574)
  have o2577 := (f2557 280 _ (by decide) o2576)
  refine y_callVR (M := (M_law nm)) (M' := M_X12_triangles) rfl rfl dL_law_1458 m_X12_triangles t_3649 t_3650 t_3651 (q2573 hl c0 c1 c2 c3 o2575 o2577) rfl rfl o2575 rfl (Nat.le_of_ble_eq_true rfl) (Nat.le_of_ble_eq_true rfl) (Nat.le_of_ble_eq_true rfl) (Nat.le_of_ble_eq_true rfl) (fun h2578 f2579 w2580 => ?_)
  obtain ⟨o2581, -⟩ := w2580
  refine x_istore (M := (M_law nm)) dL_law_1461 (Nat.le_of_ble_eq_true rfl) rfl ?_
  refine x_aload_n (M := (M_law nm)) dL_law_1463 rfl ?_
  refine x_callVR (M := (M_law nm)) (M' := M_X12_thrown) rfl rfl dL_law_1464 m_X12_thrown t_2797 t_2798 t_2799 (q774 hl o2581) rfl rfl o2581 rfl (Nat.le_of_ble_eq_true rfl) (Nat.le_of_ble_eq_true rfl) (Nat.le_of_ble_eq_true rfl) (Nat.le_of_ble_eq_true rfl) ?_
  refine x_iload (M := (M_law nm)) dL_law_1467 rfl ?_
  refine x_icmp_eq (M := (M_law nm)) (tgt := 1474) dL_law_1469 (by decide) (fun _ => ?_) (fun q => absurd q (by decide +kernel))
  refine x_iload (M := (M_law nm)) dL_law_1474 rfl ?_
  refine x_if_ne (M := (M_law nm)) (tgt := 1491) dL_law_1476 (by decide) (fun _ => ?_) (fun q => absurd q (by decide +kernel))
  refine x_goto (M := (M_law nm)) (tgt := 2449) dL_law_1491 (by decide) ?_
  refine x_iinc (M := (M_law nm)) dL_law_2449 rfl (Nat.le_of_ble_eq_true rfl) rfl ?_
  refine x_lvs (M := (M_law nm)) (lv' := [some (.ref 0), some (.ref 32), some (.ref 277), some (.ref 359), some (.int (Int32.ofInt 7)), some (.int (Int32.ofInt 2)), some (.int (Int32.ofInt 0)), none]) (by rw [(by decide +kernel : (Int32.ofInt 1) + Int32.ofInt 6 = (Int32.ofInt 7))] <;> rfl) ?_
  refine x_goto (M := (M_law nm)) (tgt := 33) dL_law_2452 (by decide) ?_
  refine x_iload (M := (M_law nm)) dL_law_33 rfl ?_
  refine x_aload_n (M := (M_law nm)) dL_law_35 rfl ?_
  refine x_slen (M := (M_law nm)) dL_law_36 (by decide) hx ?_
  refine x_bipush (M := (M_law nm)) dL_law_37 ?_
  refine x_isub (M := (M_law nm)) dL_law_39 ?_
  refine x_icmp_gt (M := (M_law nm)) (tgt := 2455) dL_law_40 (by decide) (fun _ => ?_) (fun q => absurd q (by decide +kernel))
  refine x_iconst (M := (M_law nm)) dL_law_2455 ?_
  exact x_zret (M := (M_law nm)) dL_law_2456 rfl (by decide) rfl (Nat.le_of_ble_eq_true rfl) (Nat.le_of_ble_eq_true rfl)
set_option maxRecDepth 10000 in
theorem q2587 {l : Launch} {E : EE} (hl : l.stackTraces = false) {h : HP} {a0 : Int32} {a1 : Int32} (c0 : ¬ (a0.toInt < 0)) (c1 : a0.toInt < 32) (c2 : ¬ (a1.toInt < 0)) (c3 : ¬ (a1.toInt < 32)) (o2582 : ob h 32 = some (.inr (14, [.ref 33, .ref 162, .ref 166, .int (0 : Int32), .int (0 : Int32), .int (0 : Int32), .ref 167, .ref 170, .ref 173, .ref 177, .ref 193, .ref 208, .ref 222, .ref 238, .ref 252, .ref 274, .ref 275, .ref 276, .int (0 : Int32)]))) (o2583 : ob h 33 = some (.inl (4, 32, .inr (.inr (.inr (.inr (shf 1 32))))))) : en_C l E M_X11_triangles 7 1 6 [.ref 32, .int a0, .int a1] h (pT "java/lang/IndexOutOfBoundsException" [] h (fun _ => True)) := by
  refine en_mk m_X11_triangles rfl hl (Nat.le_of_ble_eq_true rfl) ?_
  refine x_aload_n (M := M_X11_triangles) dX11_triangles_0 rfl ?_
  refine x_iload_n (M := M_X11_triangles) dX11_triangles_1 rfl ?_
  refine x_callVR (M := M_X11_triangles) (M' := M_X11_slotNumbered) rfl rfl dX11_triangles_2 m_X11_slotNumbered t_744 t_746 s_2 (q425 hl c0 c1 o2582 o2583) rfl rfl o2582 rfl (Nat.le_of_ble_eq_true rfl) (Nat.le_of_ble_eq_true rfl) (Nat.le_of_ble_eq_true rfl) (Nat.le_of_ble_eq_true rfl) ?_
  refine x_astore_n (M := M_X11_triangles) dX11_triangles_5 (Nat.le_of_ble_eq_true rfl) rfl ?_
  refine x_aload_n (M := M_X11_triangles) dX11_triangles_6 rfl ?_
  refine x_iload_n (M := M_X11_triangles) dX11_triangles_7 rfl ?_
  exact y_callVX (M := M_X11_triangles) (M' := M_X11_slotNumbered) rfl rfl dX11_triangles_8 m_X11_slotNumbered t_744 t_746 s_2 (q1560 hl c2 c3) rfl rfl o2582 rfl (Nat.le_of_ble_eq_true rfl) (Nat.le_of_ble_eq_true rfl) (Nat.le_of_ble_eq_true rfl) (Nat.le_of_ble_eq_true rfl) (fun h2584 f2585 w2586 => ⟨rfl, (fr_tr f2585 (fun _ h => nomatch h) fr_rf), trivial⟩)
set_option maxRecDepth 10000 in
theorem q2593 {l : Launch} {E : EE} (hl : l.stackTraces = false) {h : HP} {a0 : Int32} {a1 : Int32} (c0 : ¬ (a0.toInt < 0)) (c1 : a0.toInt < 32) (c2 : ¬ (a1.toInt < 0)) (c3 : ¬ (a1.toInt < 32)) (o2588 : ob h 32 = some (.inr (14, [.ref 33, .ref 162, .ref 166, .int (0 : Int32), .int (0 : Int32), .int (0 : Int32), .ref 167, .ref 170, .ref 173, .ref 177, .ref 193, .ref 208, .ref 222, .ref 238, .ref 252, .ref 274, .ref 275, .ref 276, .int (0 : Int32)]))) (o2589 : ob h 33 = some (.inl (4, 32, .inr (.inr (.inr (.inr (shf 1 32))))))) : en_C l E M_L_triangles 8 1 6 [.ref 32, .int a0, .int a1, .ref 359] h (pF (some (.int (Int32.ofInt 1))) [] h (fun _ => True)) := by
  refine en_mkW m_L_triangles rfl hl (Nat.le_of_ble_eq_true rfl) ?_
  refine x_aload_n (M := M_L_triangles) dL_triangles_0 rfl ?_
  refine x_iconst (M := M_L_triangles) dL_triangles_1 ?_
  refine x_aload_n (M := M_L_triangles) dL_triangles_2 rfl ?_
  refine x_iload_n (M := M_L_triangles) dL_triangles_3 rfl ?_
  refine x_iload_n (M := M_L_triangles) dL_triangles_4 rfl ?_
  refine y_callVHX (M := M_L_triangles) (M' := M_X11_triangles) (i9 := 4) (nx := 15) rfl dL_triangles_5 m_X11_triangles t_2125 t_2126 t_2127 o2588 rfl (q2587 hl c0 c1 c2 c3 o2588 o2589) rfl rfl (Nat.le_of_ble_eq_true rfl) (Nat.le_of_ble_eq_true rfl) (Nat.le_of_ble_eq_true rfl) (Nat.le_of_ble_eq_true rfl) (en_hdm (k0 := 4) [] [(0, 10, 17, 13), (0, 10, 21, 63)] rfl (fun _ h => nomatch h) (by decide +kernel) (by decide) t_739 n_750 dL_triangles_13) (by decide) rfl (fun h2590 f2591 w2592 => ?_)
  refine x_iconst (M := M_L_triangles) dL_triangles_15 ?_
  exact x_iret (M := M_L_triangles) dL_triangles_16 rfl ⟨rfl, (fr_tr f2591 (fun _ h => nomatch h) fr_rf), trivial⟩ (Nat.le_of_ble_eq_true rfl) (Nat.le_of_ble_eq_true rfl)
set_option maxRecDepth 10000 in
theorem q2607 {l : Launch} {E : EE} (hl : l.stackTraces = false) {h : HP} {a0 : Int32} {a1 : Int32} {dg : Int32} (c0 : ¬ (a0.toInt < 0)) (c1 : a0.toInt < 32) (c2 : ¬ (a1.toInt < 0)) (c3 : ¬ (a1.toInt < 32)) (o2599 : ob h 277 = some (.inr (15, (RB dg)))) : en_C l E M_X12_triangles 1 0 0 [.ref 277, .int a0, .int a1] h (pF (some (.int (Int32.ofInt 0))) [277] h (fun h' => ob h' 277 = some (.inr (15, ((RB dg).set 0 (.int (Int32.ofInt 1))))) ∧ True)) := by
  refine en_mk m_X12_triangles rfl hl (Nat.le_of_ble_eq_true rfl) ?_
  refine x_aload_n (M := M_X12_triangles) dX12_triangles_0 rfl ?_
  refine x_iconst (M := M_X12_triangles) dX12_triangles_1 ?_
  refine y_put (M := M_X12_triangles) (ci := 15) (C := RX12) (T := TX12) (N := 135) (ty := tyX12) cl15 dX12_triangles_2 o2599 0 (by decide) t_2391 (Or.inl rfl) (Nat.le_of_ble_eq_true rfl) rfl (fun h2600 w2601 f2602 => ?_)
  refine x_aload_n (M := M_X12_triangles) dX12_triangles_5 rfl ?_
  refine x_iload_n (M := M_X12_triangles) dX12_triangles_6 rfl ?_
  refine x_callSR (M := M_X12_triangles) (M' := M_X12_isSlot) rfl rfl dX12_triangles_7 m_X12_isSlot t_2841 t_2842 (q447 hl c0 c1) rfl rfl (Nat.le_of_ble_eq_true rfl) (Nat.le_of_ble_eq_true rfl) (Nat.le_of_ble_eq_true rfl) (Nat.le_of_ble_eq_true rfl) ?_
  refine x_if_eq (M := M_X12_triangles) (tgt := 20) dX12_triangles_10 (by decide) (fun q => absurd q (by decide +kernel)) (fun _ => ?_)
  refine x_iload_n (M := M_X12_triangles) dX12_triangles_13 rfl ?_
  refine x_callSR (M := M_X12_triangles) (M' := M_X12_isSlot) rfl rfl dX12_triangles_14 m_X12_isSlot t_2841 t_2842 (q1580 hl c2 c3) rfl rfl (Nat.le_of_ble_eq_true rfl) (Nat.le_of_ble_eq_true rfl) (Nat.le_of_ble_eq_true rfl) (Nat.le_of_ble_eq_true rfl) ?_
  refine x_if_ne (M := M_X12_triangles) (tgt := 24) dX12_triangles_17 (by decide) (fun q => absurd q (by decide +kernel)) (fun _ => ?_)
  refine x_iconst (M := M_X12_triangles) dX12_triangles_20 ?_
  refine x_goto (M := M_X12_triangles) (tgt := 25) dX12_triangles_21 (by decide) ?_
  refine x_iconst (M := M_X12_triangles) dX12_triangles_25 ?_
  refine y_callVR (M := M_X12_triangles) (M' := M_X12_fails) rfl rfl dX12_triangles_26 m_X12_fails t_2805 t_2807 s_157 (q22 hl w2601) rfl rfl w2601 rfl (Nat.le_of_ble_eq_true rfl) (Nat.le_of_ble_eq_true rfl) (Nat.le_of_ble_eq_true rfl) (Nat.le_of_ble_eq_true rfl) (fun h2603 f2604 w2605 => ?_)
  obtain ⟨o2606, -⟩ := w2605
  refine x_if_ne (M := M_X12_triangles) (tgt := 74) dX12_triangles_29 (by decide) (fun _ => ?_) (fun q => absurd q (by decide +kernel))
  refine x_iconst (M := M_X12_triangles) dX12_triangles_74 ?_
  exact x_iret (M := M_X12_triangles) dX12_triangles_75 rfl ⟨rfl, (fr_tr f2604 (by decide) (fr_tr f2602 (by decide) fr_rf)), ⟨o2606, trivial⟩⟩ (Nat.le_of_ble_eq_true rfl) (Nat.le_of_ble_eq_true rfl)
set_option maxRecDepth 10000 in
theorem lc19_3 {l : Launch} {E : EE} (hl : l.stackTraces = false) (nm : String) {xs : Nat → Int32} (hx : E.2.2.2.2 0 = some (7, xs)) {h : HP} {a0 : Int32} {a1 : Int32} {dg : Int32} (e2 : xs 2 = a0) (e3 : xs 3 = a1) (c0 : ¬ (a0.toInt < 0)) (c1 : a0.toInt < 32) (c2 : ¬ (a1.toInt < 0)) (c3 : ¬ (a1.toInt < 32)) (o2594 : ob h 32 = some (.inr (14, [.ref 33, .ref 162, .ref 166, .int (0 : Int32), .int (0 : Int32), .int (0 : Int32), .ref 167, .ref 170, .ref 173, .ref 177, .ref 193, .ref 208, .ref 222, .ref 238, .ref 252, .ref 274, .ref 275, .ref 276, .int (0 : Int32)]))) (o2595 : ob h 33 = some (.inl (4, 32, .inr (.inr (.inr (.inr (shf 1 32))))))) (o2608 : ob h 277 = some (.inr (15, (RB dg)))) : XX l E (M_law nm) 1312 342628 8074320 (fun o _ => o = .inl (some (.int 1))) 1426 [some (.ref 0), some (.ref 32), some (.ref 277), some (.ref 359), some (.int (Int32.ofInt 1)), none, none, none] [] h 328 2463747 := by
  refine x_aload_n (M := (M_law nm)) dL_law_1426 rfl ?_
  refine x_aload_n (M := (M_law nm)) dL_law_1427 rfl ?_
  refine x_iload (M := (M_law nm)) dL_law_1428 rfl ?_
  refine x_iconst (M := (M_law nm)) dL_law_1430 ?_
  refine x_iadd (M := (M_law nm)) dL_law_1431 ?_
  refine x_sald (M := (M_law nm)) dL_law_1432 (by decide) hx (vp_inD (by decide +kernel)) ?_
  refine x_top (M := (M_law nm)) (y := a0) ((congrArg xs (by decide +kernel : ((Int32.ofInt 1) + (Int32.ofInt 1)).toNatClampNeg = 2)).trans e2) ?_
  refine x_aload_n (M := (M_law nm)) dL_law_1433 rfl ?_
  refine x_iload (M := (M_law nm)) dL_law_1434 rfl ?_
  refine x_iconst (M := (M_law nm)) dL_law_1436 ?_
  refine x_iadd (M := (M_law nm)) dL_law_1437 ?_
  refine x_sald (M := (M_law nm)) dL_law_1438 (by decide) hx (vp_inD (by decide +kernel)) ?_
  refine x_top (M := (M_law nm)) (y := a1) ((congrArg xs (by decide +kernel : ((Int32.ofInt 1) + (Int32.ofInt 2)).toNatClampNeg = 3)).trans e3) ?_
  refine x_aload_n (M := (M_law nm)) dL_law_1439 rfl ?_
  refine y_callSW (M := (M_law nm)) (M' := M_L_triangles) rfl rfl dL_law_1440 m_L_triangles t_2122 t_2123 (q2593 hl c0 c1 c2 c3 o2594 o2595) rfl rfl (Nat.le_of_ble_eq_true rfl) (Nat.le_of_ble_eq_true rfl) (Nat.le_of_ble_eq_true rfl) (Nat.le_of_ble_eq_true rfl) (fun h2596 f2597 w2598 => ?_)
  refine x_istore (M := (M_law nm)) dL_law_1443 (Nat.le_of_ble_eq_true rfl) rfl ?_
  refine x_aload_n (M := (M_law nm)) dL_law_1445 rfl ?_
  refine x_aload_n (M := (M_law nm)) dL_law_1446 rfl ?_
  refine x_iload (M := (M_law nm)) dL_law_1447 rfl ?_
  refine x_iconst (M := (M_law nm)) dL_law_1449 ?_
  refine x_iadd (M := (M_law nm)) dL_law_1450 ?_
  refine x_sald (M := (M_law nm)) dL_law_1451 (by decide) hx (vp_inD (by decide +kernel)) ?_
  refine x_top (M := (M_law nm)) (y := a0) ((congrArg xs (by decide +kernel : ((Int32.ofInt 1) + (Int32.ofInt 1)).toNatClampNeg = 2)).trans e2) ?_
  refine x_aload_n (M := (M_law nm)) dL_law_1452 rfl ?_
  refine x_iload (M := (M_law nm)) dL_law_1453 rfl ?_
  refine x_iconst (M := (M_law nm)) dL_law_1455 ?_
  refine x_iadd (M := (M_law nm)) dL_law_1456 ?_
  refine x_sald (M := (M_law nm)) dL_law_1457 (by decide) hx (vp_inD (by decide +kernel)) ?_
  refine x_top (M := (M_law nm)) (y := a1) ((congrArg xs (by decide +kernel : ((Int32.ofInt 1) + (Int32.ofInt 2)).toNatClampNeg = 3)).trans e3) ?_
  have o2609 := (f2597 277 _ (by decide) o2608)
  refine y_callVR (M := (M_law nm)) (M' := M_X12_triangles) rfl rfl dL_law_1458 m_X12_triangles t_3649 t_3650 t_3651 (q2607 hl c0 c1 c2 c3 o2609) rfl rfl o2609 rfl (Nat.le_of_ble_eq_true rfl) (Nat.le_of_ble_eq_true rfl) (Nat.le_of_ble_eq_true rfl) (Nat.le_of_ble_eq_true rfl) (fun h2610 f2611 w2612 => ?_)
  obtain ⟨o2613, -⟩ := w2612
  refine x_istore (M := (M_law nm)) dL_law_1461 (Nat.le_of_ble_eq_true rfl) rfl ?_
  refine x_aload_n (M := (M_law nm)) dL_law_1463 rfl ?_
  refine x_callVR (M := (M_law nm)) (M' := M_X12_thrown) rfl rfl dL_law_1464 m_X12_thrown t_2797 t_2798 t_2799 (q35 hl o2613) rfl rfl o2613 rfl (Nat.le_of_ble_eq_true rfl) (Nat.le_of_ble_eq_true rfl) (Nat.le_of_ble_eq_true rfl) (Nat.le_of_ble_eq_true rfl) ?_
  refine x_iload (M := (M_law nm)) dL_law_1467 rfl ?_
  refine x_icmp_eq (M := (M_law nm)) (tgt := 1474) dL_law_1469 (by decide) (fun _ => ?_) (fun q => absurd q (by decide +kernel))
  refine x_iload (M := (M_law nm)) dL_law_1474 rfl ?_
  refine x_if_ne (M := (M_law nm)) (tgt := 1491) dL_law_1476 (by decide) (fun _ => ?_) (fun q => absurd q (by decide +kernel))
  refine x_goto (M := (M_law nm)) (tgt := 2449) dL_law_1491 (by decide) ?_
  refine x_iinc (M := (M_law nm)) dL_law_2449 rfl (Nat.le_of_ble_eq_true rfl) rfl ?_
  refine x_lvs (M := (M_law nm)) (lv' := [some (.ref 0), some (.ref 32), some (.ref 277), some (.ref 359), some (.int (Int32.ofInt 7)), some (.int (Int32.ofInt 1)), some (.int (Int32.ofInt 0)), none]) (by rw [(by decide +kernel : (Int32.ofInt 1) + Int32.ofInt 6 = (Int32.ofInt 7))] <;> rfl) ?_
  refine x_goto (M := (M_law nm)) (tgt := 33) dL_law_2452 (by decide) ?_
  refine x_iload (M := (M_law nm)) dL_law_33 rfl ?_
  refine x_aload_n (M := (M_law nm)) dL_law_35 rfl ?_
  refine x_slen (M := (M_law nm)) dL_law_36 (by decide) hx ?_
  refine x_bipush (M := (M_law nm)) dL_law_37 ?_
  refine x_isub (M := (M_law nm)) dL_law_39 ?_
  refine x_icmp_gt (M := (M_law nm)) (tgt := 2455) dL_law_40 (by decide) (fun _ => ?_) (fun q => absurd q (by decide +kernel))
  refine x_iconst (M := (M_law nm)) dL_law_2455 ?_
  exact x_zret (M := (M_law nm)) dL_law_2456 rfl (by decide) rfl (Nat.le_of_ble_eq_true rfl) (Nat.le_of_ble_eq_true rfl)
set_option maxRecDepth 10000 in
theorem q2618 {l : Launch} {E : EE} (hl : l.stackTraces = false) {h : HP} {a0 : Int32} {a1 : Int32} (c0 : ¬ (a0.toInt < 0)) (c1 : ¬ (a0.toInt < 32)) (o2614 : ob h 32 = some (.inr (14, [.ref 33, .ref 162, .ref 166, .int (0 : Int32), .int (0 : Int32), .int (0 : Int32), .ref 167, .ref 170, .ref 173, .ref 177, .ref 193, .ref 208, .ref 222, .ref 238, .ref 252, .ref 274, .ref 275, .ref 276, .int (0 : Int32)]))) : en_C l E M_X11_triangles 7 1 6 [.ref 32, .int a0, .int a1] h (pT "java/lang/IndexOutOfBoundsException" [] h (fun _ => True)) := by
  refine en_mk m_X11_triangles rfl hl (Nat.le_of_ble_eq_true rfl) ?_
  refine x_aload_n (M := M_X11_triangles) dX11_triangles_0 rfl ?_
  refine x_iload_n (M := M_X11_triangles) dX11_triangles_1 rfl ?_
  exact y_callVX (M := M_X11_triangles) (M' := M_X11_slotNumbered) rfl rfl dX11_triangles_2 m_X11_slotNumbered t_744 t_746 s_2 (q511 hl c0 c1) rfl rfl o2614 rfl (Nat.le_of_ble_eq_true rfl) (Nat.le_of_ble_eq_true rfl) (Nat.le_of_ble_eq_true rfl) (Nat.le_of_ble_eq_true rfl) (fun h2615 f2616 w2617 => ⟨rfl, (fr_tr f2616 (fun _ h => nomatch h) fr_rf), trivial⟩)
set_option maxRecDepth 10000 in
theorem q2623 {l : Launch} {E : EE} (hl : l.stackTraces = false) {h : HP} {a0 : Int32} {a1 : Int32} (c0 : ¬ (a0.toInt < 0)) (c1 : ¬ (a0.toInt < 32)) (o2619 : ob h 32 = some (.inr (14, [.ref 33, .ref 162, .ref 166, .int (0 : Int32), .int (0 : Int32), .int (0 : Int32), .ref 167, .ref 170, .ref 173, .ref 177, .ref 193, .ref 208, .ref 222, .ref 238, .ref 252, .ref 274, .ref 275, .ref 276, .int (0 : Int32)]))) : en_C l E M_L_triangles 8 1 6 [.ref 32, .int a0, .int a1, .ref 359] h (pF (some (.int (Int32.ofInt 1))) [] h (fun _ => True)) := by
  refine en_mkW m_L_triangles rfl hl (Nat.le_of_ble_eq_true rfl) ?_
  refine x_aload_n (M := M_L_triangles) dL_triangles_0 rfl ?_
  refine x_iconst (M := M_L_triangles) dL_triangles_1 ?_
  refine x_aload_n (M := M_L_triangles) dL_triangles_2 rfl ?_
  refine x_iload_n (M := M_L_triangles) dL_triangles_3 rfl ?_
  refine x_iload_n (M := M_L_triangles) dL_triangles_4 rfl ?_
  refine y_callVHX (M := M_L_triangles) (M' := M_X11_triangles) (i9 := 4) (nx := 15) rfl dL_triangles_5 m_X11_triangles t_2125 t_2126 t_2127 o2619 rfl (q2618 hl c0 c1 o2619) rfl rfl (Nat.le_of_ble_eq_true rfl) (Nat.le_of_ble_eq_true rfl) (Nat.le_of_ble_eq_true rfl) (Nat.le_of_ble_eq_true rfl) (en_hdm (k0 := 4) [] [(0, 10, 17, 13), (0, 10, 21, 63)] rfl (fun _ h => nomatch h) (by decide +kernel) (by decide) t_739 n_750 dL_triangles_13) (by decide) rfl (fun h2620 f2621 w2622 => ?_)
  refine x_iconst (M := M_L_triangles) dL_triangles_15 ?_
  exact x_iret (M := M_L_triangles) dL_triangles_16 rfl ⟨rfl, (fr_tr f2621 (fun _ h => nomatch h) fr_rf), trivial⟩ (Nat.le_of_ble_eq_true rfl) (Nat.le_of_ble_eq_true rfl)
set_option maxRecDepth 10000 in
theorem q2636 {l : Launch} {E : EE} (hl : l.stackTraces = false) {h : HP} {a0 : Int32} {a1 : Int32} {dg : Int32} (c0 : ¬ (a0.toInt < 0)) (c1 : ¬ (a0.toInt < 32)) (o2628 : ob h 277 = some (.inr (15, (RB dg)))) : en_C l E M_X12_triangles 1 0 0 [.ref 277, .int a0, .int a1] h (pF (some (.int (Int32.ofInt 0))) [277] h (fun h' => ob h' 277 = some (.inr (15, ((RB dg).set 0 (.int (Int32.ofInt 1))))) ∧ True)) := by
  refine en_mk m_X12_triangles rfl hl (Nat.le_of_ble_eq_true rfl) ?_
  refine x_aload_n (M := M_X12_triangles) dX12_triangles_0 rfl ?_
  refine x_iconst (M := M_X12_triangles) dX12_triangles_1 ?_
  refine y_put (M := M_X12_triangles) (ci := 15) (C := RX12) (T := TX12) (N := 135) (ty := tyX12) cl15 dX12_triangles_2 o2628 0 (by decide) t_2391 (Or.inl rfl) (Nat.le_of_ble_eq_true rfl) rfl (fun h2629 w2630 f2631 => ?_)
  refine x_aload_n (M := M_X12_triangles) dX12_triangles_5 rfl ?_
  refine x_iload_n (M := M_X12_triangles) dX12_triangles_6 rfl ?_
  refine x_callSR (M := M_X12_triangles) (M' := M_X12_isSlot) rfl rfl dX12_triangles_7 m_X12_isSlot t_2841 t_2842 (q530 hl c0 c1) rfl rfl (Nat.le_of_ble_eq_true rfl) (Nat.le_of_ble_eq_true rfl) (Nat.le_of_ble_eq_true rfl) (Nat.le_of_ble_eq_true rfl) ?_
  refine x_if_eq (M := M_X12_triangles) (tgt := 20) dX12_triangles_10 (by decide) (fun _ => ?_) (fun q => absurd q (by decide +kernel))
  refine x_iconst (M := M_X12_triangles) dX12_triangles_20 ?_
  refine x_goto (M := M_X12_triangles) (tgt := 25) dX12_triangles_21 (by decide) ?_
  refine x_iconst (M := M_X12_triangles) dX12_triangles_25 ?_
  refine y_callVR (M := M_X12_triangles) (M' := M_X12_fails) rfl rfl dX12_triangles_26 m_X12_fails t_2805 t_2807 s_157 (q22 hl w2630) rfl rfl w2630 rfl (Nat.le_of_ble_eq_true rfl) (Nat.le_of_ble_eq_true rfl) (Nat.le_of_ble_eq_true rfl) (Nat.le_of_ble_eq_true rfl) (fun h2632 f2633 w2634 => ?_)
  obtain ⟨o2635, -⟩ := w2634
  refine x_if_ne (M := M_X12_triangles) (tgt := 74) dX12_triangles_29 (by decide) (fun _ => ?_) (fun q => absurd q (by decide +kernel))
  refine x_iconst (M := M_X12_triangles) dX12_triangles_74 ?_
  exact x_iret (M := M_X12_triangles) dX12_triangles_75 rfl ⟨rfl, (fr_tr f2633 (by decide) (fr_tr f2631 (by decide) fr_rf)), ⟨o2635, trivial⟩⟩ (Nat.le_of_ble_eq_true rfl) (Nat.le_of_ble_eq_true rfl)
set_option maxRecDepth 10000 in
theorem lc19_4 {l : Launch} {E : EE} (hl : l.stackTraces = false) (nm : String) {xs : Nat → Int32} (hx : E.2.2.2.2 0 = some (7, xs)) {h : HP} {a0 : Int32} {a1 : Int32} {dg : Int32} (e2 : xs 2 = a0) (e3 : xs 3 = a1) (c0 : ¬ (a0.toInt < 0)) (c1 : ¬ (a0.toInt < 32)) (o2624 : ob h 32 = some (.inr (14, [.ref 33, .ref 162, .ref 166, .int (0 : Int32), .int (0 : Int32), .int (0 : Int32), .ref 167, .ref 170, .ref 173, .ref 177, .ref 193, .ref 208, .ref 222, .ref 238, .ref 252, .ref 274, .ref 275, .ref 276, .int (0 : Int32)]))) (o2637 : ob h 277 = some (.inr (15, (RB dg)))) : XX l E (M_law nm) 1312 342628 8074320 (fun o _ => o = .inl (some (.int 1))) 1426 [some (.ref 0), some (.ref 32), some (.ref 277), some (.ref 359), some (.int (Int32.ofInt 1)), none, none, none] [] h 328 2463747 := by
  refine x_aload_n (M := (M_law nm)) dL_law_1426 rfl ?_
  refine x_aload_n (M := (M_law nm)) dL_law_1427 rfl ?_
  refine x_iload (M := (M_law nm)) dL_law_1428 rfl ?_
  refine x_iconst (M := (M_law nm)) dL_law_1430 ?_
  refine x_iadd (M := (M_law nm)) dL_law_1431 ?_
  refine x_sald (M := (M_law nm)) dL_law_1432 (by decide) hx (vp_inD (by decide +kernel)) ?_
  refine x_top (M := (M_law nm)) (y := a0) ((congrArg xs (by decide +kernel : ((Int32.ofInt 1) + (Int32.ofInt 1)).toNatClampNeg = 2)).trans e2) ?_
  refine x_aload_n (M := (M_law nm)) dL_law_1433 rfl ?_
  refine x_iload (M := (M_law nm)) dL_law_1434 rfl ?_
  refine x_iconst (M := (M_law nm)) dL_law_1436 ?_
  refine x_iadd (M := (M_law nm)) dL_law_1437 ?_
  refine x_sald (M := (M_law nm)) dL_law_1438 (by decide) hx (vp_inD (by decide +kernel)) ?_
  refine x_top (M := (M_law nm)) (y := a1) ((congrArg xs (by decide +kernel : ((Int32.ofInt 1) + (Int32.ofInt 2)).toNatClampNeg = 3)).trans e3) ?_
  refine x_aload_n (M := (M_law nm)) dL_law_1439 rfl ?_
  refine y_callSW (M := (M_law nm)) (M' := M_L_triangles) rfl rfl dL_law_1440 m_L_triangles t_2122 t_2123 (q2623 hl c0 c1 o2624) rfl rfl (Nat.le_of_ble_eq_true rfl) (Nat.le_of_ble_eq_true rfl) (Nat.le_of_ble_eq_true rfl) (Nat.le_of_ble_eq_true rfl) (fun h2625 f2626 w2627 => ?_)
  refine x_istore (M := (M_law nm)) dL_law_1443 (Nat.le_of_ble_eq_true rfl) rfl ?_
  refine x_aload_n (M := (M_law nm)) dL_law_1445 rfl ?_
  refine x_aload_n (M := (M_law nm)) dL_law_1446 rfl ?_
  refine x_iload (M := (M_law nm)) dL_law_1447 rfl ?_
  refine x_iconst (M := (M_law nm)) dL_law_1449 ?_
  refine x_iadd (M := (M_law nm)) dL_law_1450 ?_
  refine x_sald (M := (M_law nm)) dL_law_1451 (by decide) hx (vp_inD (by decide +kernel)) ?_
  refine x_top (M := (M_law nm)) (y := a0) ((congrArg xs (by decide +kernel : ((Int32.ofInt 1) + (Int32.ofInt 1)).toNatClampNeg = 2)).trans e2) ?_
  refine x_aload_n (M := (M_law nm)) dL_law_1452 rfl ?_
  refine x_iload (M := (M_law nm)) dL_law_1453 rfl ?_
  refine x_iconst (M := (M_law nm)) dL_law_1455 ?_
  refine x_iadd (M := (M_law nm)) dL_law_1456 ?_
  refine x_sald (M := (M_law nm)) dL_law_1457 (by decide) hx (vp_inD (by decide +kernel)) ?_
  refine x_top (M := (M_law nm)) (y := a1) ((congrArg xs (by decide +kernel : ((Int32.ofInt 1) + (Int32.ofInt 2)).toNatClampNeg = 3)).trans e3) ?_
  have o2638 := (f2626 277 _ (by decide) o2637)
  refine y_callVR (M := (M_law nm)) (M' := M_X12_triangles) rfl rfl dL_law_1458 m_X12_triangles t_3649 t_3650 t_3651 (q2636 hl c0 c1 o2638) rfl rfl o2638 rfl (Nat.le_of_ble_eq_true rfl) (Nat.le_of_ble_eq_true rfl) (Nat.le_of_ble_eq_true rfl) (Nat.le_of_ble_eq_true rfl) (fun h2639 f2640 w2641 => ?_)
  obtain ⟨o2642, -⟩ := w2641
  refine x_istore (M := (M_law nm)) dL_law_1461 (Nat.le_of_ble_eq_true rfl) rfl ?_
  refine x_aload_n (M := (M_law nm)) dL_law_1463 rfl ?_
  refine x_callVR (M := (M_law nm)) (M' := M_X12_thrown) rfl rfl dL_law_1464 m_X12_thrown t_2797 t_2798 t_2799 (q35 hl o2642) rfl rfl o2642 rfl (Nat.le_of_ble_eq_true rfl) (Nat.le_of_ble_eq_true rfl) (Nat.le_of_ble_eq_true rfl) (Nat.le_of_ble_eq_true rfl) ?_
  refine x_iload (M := (M_law nm)) dL_law_1467 rfl ?_
  refine x_icmp_eq (M := (M_law nm)) (tgt := 1474) dL_law_1469 (by decide) (fun _ => ?_) (fun q => absurd q (by decide +kernel))
  refine x_iload (M := (M_law nm)) dL_law_1474 rfl ?_
  refine x_if_ne (M := (M_law nm)) (tgt := 1491) dL_law_1476 (by decide) (fun _ => ?_) (fun q => absurd q (by decide +kernel))
  refine x_goto (M := (M_law nm)) (tgt := 2449) dL_law_1491 (by decide) ?_
  refine x_iinc (M := (M_law nm)) dL_law_2449 rfl (Nat.le_of_ble_eq_true rfl) rfl ?_
  refine x_lvs (M := (M_law nm)) (lv' := [some (.ref 0), some (.ref 32), some (.ref 277), some (.ref 359), some (.int (Int32.ofInt 7)), some (.int (Int32.ofInt 1)), some (.int (Int32.ofInt 0)), none]) (by rw [(by decide +kernel : (Int32.ofInt 1) + Int32.ofInt 6 = (Int32.ofInt 7))] <;> rfl) ?_
  refine x_goto (M := (M_law nm)) (tgt := 33) dL_law_2452 (by decide) ?_
  refine x_iload (M := (M_law nm)) dL_law_33 rfl ?_
  refine x_aload_n (M := (M_law nm)) dL_law_35 rfl ?_
  refine x_slen (M := (M_law nm)) dL_law_36 (by decide) hx ?_
  refine x_bipush (M := (M_law nm)) dL_law_37 ?_
  refine x_isub (M := (M_law nm)) dL_law_39 ?_
  refine x_icmp_gt (M := (M_law nm)) (tgt := 2455) dL_law_40 (by decide) (fun _ => ?_) (fun q => absurd q (by decide +kernel))
  refine x_iconst (M := (M_law nm)) dL_law_2455 ?_
  exact x_zret (M := (M_law nm)) dL_law_2456 rfl (by decide) rfl (Nat.le_of_ble_eq_true rfl) (Nat.le_of_ble_eq_true rfl)
theorem lop19 {l : Launch} {E : EE} (hl : l.stackTraces = false) (nm : String) {xs : Nat → Int32} (hx : E.2.2.2.2 0 = some (7, xs)) (dg : Int32) : XX l E (M_law nm) 1312 342628 8074320 (fun o _ => o = .inl (some (.int 1))) 1426 [some (.ref 0), some (.ref 32), some (.ref 277), some (.ref 359), some (.int (Int32.ofInt 1)), none, none, none] [] (HH dg) 328 2463747 := by
  obtain ⟨a0, e2⟩ : ∃ a : Int32, xs 2 = a := ⟨_, rfl⟩
  obtain ⟨a1, e3⟩ : ∃ a : Int32, xs 3 = a := ⟨_, rfl⟩
  obtain ⟨a2, e4⟩ : ∃ a : Int32, xs 4 = a := ⟨_, rfl⟩
  obtain ⟨a3, e5⟩ : ∃ a : Int32, xs 5 = a := ⟨_, rfl⟩
  obtain ⟨a4, e6⟩ : ∃ a : Int32, xs 6 = a := ⟨_, rfl⟩
  by_cases c0 : a0.toInt < 0
  · exact lc19_0 hl nm hx e2 e3 c0 (o_32 dg) (o_277b dg)
  · by_cases c1 : a0.toInt < 32
    · by_cases c2 : a1.toInt < 0
      · exact lc19_1 hl nm hx e2 e3 c0 c1 c2 (o_32 dg) (o_33 dg) (o_277b dg)
      · by_cases c3 : a1.toInt < 32
        · have n_a0 : a0.toNatClampNeg < 32 := nc_lt (by omega) (by decide)
          exact lc19_2 hl nm hx e2 e3 c0 c1 c2 c3 (o_32 dg) (o_33 dg) (o_sh dg a0.toNatClampNeg n_a0) (o_277b dg) (oMR (dg := dg) (k := 2) rfl)
        · exact lc19_3 hl nm hx e2 e3 c0 c1 c2 c3 (o_32 dg) (o_33 dg) (o_277b dg)
    · exact lc19_4 hl nm hx e2 e3 c0 c1 (o_32 dg) (o_277b dg)
set_option maxRecDepth 10000 in
theorem q2647 {l : Launch} {E : EE} (hl : l.stackTraces = false) {h : HP} {a0 : Int32} {a1 : Int32} {a2 : Int32} (c0 : a0.toInt < 0) (o2643 : ob h 32 = some (.inr (14, [.ref 33, .ref 162, .ref 166, .int (0 : Int32), .int (0 : Int32), .int (0 : Int32), .ref 167, .ref 170, .ref 173, .ref 177, .ref 193, .ref 208, .ref 222, .ref 238, .ref 252, .ref 274, .ref 275, .ref 276, .int (0 : Int32)]))) : en_C l E M_X11_simplify 7 1 6 [.ref 32, .int a0, .int a1, .int a2] h (pT "java/lang/IndexOutOfBoundsException" [] h (fun _ => True)) := by
  refine en_mk m_X11_simplify rfl hl (Nat.le_of_ble_eq_true rfl) ?_
  refine x_aload_n (M := M_X11_simplify) dX11_simplify_0 rfl ?_
  refine x_iload_n (M := M_X11_simplify) dX11_simplify_1 rfl ?_
  exact y_callVX (M := M_X11_simplify) (M' := M_X11_slotNumbered) rfl rfl dX11_simplify_2 m_X11_slotNumbered t_744 t_746 s_2 (q392 hl c0) rfl rfl o2643 rfl (Nat.le_of_ble_eq_true rfl) (Nat.le_of_ble_eq_true rfl) (Nat.le_of_ble_eq_true rfl) (Nat.le_of_ble_eq_true rfl) (fun h2644 f2645 w2646 => ⟨rfl, (fr_tr f2645 (fun _ h => nomatch h) fr_rf), trivial⟩)
set_option maxRecDepth 10000 in
theorem q2652 {l : Launch} {E : EE} (hl : l.stackTraces = false) {h : HP} {a0 : Int32} {a1 : Int32} {a2 : Int32} (c0 : a0.toInt < 0) (o2648 : ob h 32 = some (.inr (14, [.ref 33, .ref 162, .ref 166, .int (0 : Int32), .int (0 : Int32), .int (0 : Int32), .ref 167, .ref 170, .ref 173, .ref 177, .ref 193, .ref 208, .ref 222, .ref 238, .ref 252, .ref 274, .ref 275, .ref 276, .int (0 : Int32)]))) : en_C l E M_L_simplify 8 1 6 [.ref 32, .int a0, .int a1, .int a2, .ref 359] h (pF (some (.int (Int32.ofInt 1))) [] h (fun _ => True)) := by
  refine en_mkW m_L_simplify rfl hl (Nat.le_of_ble_eq_true rfl) ?_
  refine x_aload (M := M_L_simplify) dL_simplify_0 rfl ?_
  refine x_iconst (M := M_L_simplify) dL_simplify_2 ?_
  refine x_aload_n (M := M_L_simplify) dL_simplify_3 rfl ?_
  refine x_iload_n (M := M_L_simplify) dL_simplify_4 rfl ?_
  refine x_iload_n (M := M_L_simplify) dL_simplify_5 rfl ?_
  refine x_iload_n (M := M_L_simplify) dL_simplify_6 rfl ?_
  refine y_callVHX (M := M_L_simplify) (M' := M_X11_simplify) (i9 := 5) (nx := 17) rfl dL_simplify_7 m_X11_simplify t_2187 t_2188 t_2189 o2648 rfl (q2647 hl c0 o2648) rfl rfl (Nat.le_of_ble_eq_true rfl) (Nat.le_of_ble_eq_true rfl) (Nat.le_of_ble_eq_true rfl) (Nat.le_of_ble_eq_true rfl) (en_hdm (k0 := 5) [] [(0, 12, 19, 13), (0, 12, 23, 19)] rfl (fun _ h => nomatch h) (by decide +kernel) (by decide) t_739 n_750 dL_simplify_15) (by decide) rfl (fun h2649 f2650 w2651 => ?_)
  refine x_iconst (M := M_L_simplify) dL_simplify_17 ?_
  exact x_iret (M := M_L_simplify) dL_simplify_18 rfl ⟨rfl, (fr_tr f2650 (fun _ h => nomatch h) fr_rf), trivial⟩ (Nat.le_of_ble_eq_true rfl) (Nat.le_of_ble_eq_true rfl)
set_option maxRecDepth 10000 in
theorem q2665 {l : Launch} {E : EE} (hl : l.stackTraces = false) {h : HP} {a0 : Int32} {a1 : Int32} {a2 : Int32} {dg : Int32} (c0 : a0.toInt < 0) (o2657 : ob h 277 = some (.inr (15, (RB dg)))) : en_C l E M_X12_simplify 1 0 0 [.ref 277, .int a0, .int a1, .int a2] h (pF (some (.int (Int32.ofInt 0))) [277] h (fun h' => ob h' 277 = some (.inr (15, ((RB dg).set 0 (.int (Int32.ofInt 1))))) ∧ True)) := by
  refine en_mk m_X12_simplify rfl hl (Nat.le_of_ble_eq_true rfl) ?_
  refine x_aload_n (M := M_X12_simplify) dX12_simplify_0 rfl ?_
  refine x_iconst (M := M_X12_simplify) dX12_simplify_1 ?_
  refine y_put (M := M_X12_simplify) (ci := 15) (C := RX12) (T := TX12) (N := 135) (ty := tyX12) cl15 dX12_simplify_2 o2657 0 (by decide) t_2391 (Or.inl rfl) (Nat.le_of_ble_eq_true rfl) rfl (fun h2658 w2659 f2660 => ?_)
  refine x_aload_n (M := M_X12_simplify) dX12_simplify_5 rfl ?_
  refine x_iload_n (M := M_X12_simplify) dX12_simplify_6 rfl ?_
  refine x_callSR (M := M_X12_simplify) (M' := M_X12_isSlot) rfl rfl dX12_simplify_7 m_X12_isSlot t_2841 t_2842 (q411 hl c0) rfl rfl (Nat.le_of_ble_eq_true rfl) (Nat.le_of_ble_eq_true rfl) (Nat.le_of_ble_eq_true rfl) (Nat.le_of_ble_eq_true rfl) ?_
  refine x_if_eq (M := M_X12_simplify) (tgt := 20) dX12_simplify_10 (by decide) (fun _ => ?_) (fun q => absurd q (by decide +kernel))
  refine x_iconst (M := M_X12_simplify) dX12_simplify_20 ?_
  refine x_goto (M := M_X12_simplify) (tgt := 25) dX12_simplify_21 (by decide) ?_
  refine x_iconst (M := M_X12_simplify) dX12_simplify_25 ?_
  refine y_callVR (M := M_X12_simplify) (M' := M_X12_fails) rfl rfl dX12_simplify_26 m_X12_fails t_2805 t_2807 s_157 (q22 hl w2659) rfl rfl w2659 rfl (Nat.le_of_ble_eq_true rfl) (Nat.le_of_ble_eq_true rfl) (Nat.le_of_ble_eq_true rfl) (Nat.le_of_ble_eq_true rfl) (fun h2661 f2662 w2663 => ?_)
  obtain ⟨o2664, -⟩ := w2663
  refine x_if_ne (M := M_X12_simplify) (tgt := 78) dX12_simplify_29 (by decide) (fun _ => ?_) (fun q => absurd q (by decide +kernel))
  refine x_iconst (M := M_X12_simplify) dX12_simplify_78 ?_
  exact x_iret (M := M_X12_simplify) dX12_simplify_79 rfl ⟨rfl, (fr_tr f2662 (by decide) (fr_tr f2660 (by decide) fr_rf)), ⟨o2664, trivial⟩⟩ (Nat.le_of_ble_eq_true rfl) (Nat.le_of_ble_eq_true rfl)
set_option maxRecDepth 10000 in
theorem lc20_0 {l : Launch} {E : EE} (hl : l.stackTraces = false) (nm : String) {xs : Nat → Int32} (hx : E.2.2.2.2 0 = some (7, xs)) {h : HP} {a0 : Int32} {a1 : Int32} {a2 : Int32} {dg : Int32} (e2 : xs 2 = a0) (e3 : xs 3 = a1) (e4 : xs 4 = a2) (c0 : a0.toInt < 0) (o2653 : ob h 32 = some (.inr (14, [.ref 33, .ref 162, .ref 166, .int (0 : Int32), .int (0 : Int32), .int (0 : Int32), .ref 167, .ref 170, .ref 173, .ref 177, .ref 193, .ref 208, .ref 222, .ref 238, .ref 252, .ref 274, .ref 275, .ref 276, .int (0 : Int32)]))) (o2666 : ob h 277 = some (.inr (15, (RB dg)))) : XX l E (M_law nm) 1312 342628 8074320 (fun o _ => o = .inl (some (.int 1))) 1494 [some (.ref 0), some (.ref 32), some (.ref 277), some (.ref 359), some (.int (Int32.ofInt 1)), none, none, none] [] h 328 2463747 := by
  refine x_aload_n (M := (M_law nm)) dL_law_1494 rfl ?_
  refine x_aload_n (M := (M_law nm)) dL_law_1495 rfl ?_
  refine x_iload (M := (M_law nm)) dL_law_1496 rfl ?_
  refine x_iconst (M := (M_law nm)) dL_law_1498 ?_
  refine x_iadd (M := (M_law nm)) dL_law_1499 ?_
  refine x_sald (M := (M_law nm)) dL_law_1500 (by decide) hx (vp_inD (by decide +kernel)) ?_
  refine x_top (M := (M_law nm)) (y := a0) ((congrArg xs (by decide +kernel : ((Int32.ofInt 1) + (Int32.ofInt 1)).toNatClampNeg = 2)).trans e2) ?_
  refine x_aload_n (M := (M_law nm)) dL_law_1501 rfl ?_
  refine x_iload (M := (M_law nm)) dL_law_1502 rfl ?_
  refine x_iconst (M := (M_law nm)) dL_law_1504 ?_
  refine x_iadd (M := (M_law nm)) dL_law_1505 ?_
  refine x_sald (M := (M_law nm)) dL_law_1506 (by decide) hx (vp_inD (by decide +kernel)) ?_
  refine x_top (M := (M_law nm)) (y := a1) ((congrArg xs (by decide +kernel : ((Int32.ofInt 1) + (Int32.ofInt 2)).toNatClampNeg = 3)).trans e3) ?_
  refine x_aload_n (M := (M_law nm)) dL_law_1507 rfl ?_
  refine x_iload (M := (M_law nm)) dL_law_1508 rfl ?_
  refine x_iconst (M := (M_law nm)) dL_law_1510 ?_
  refine x_iadd (M := (M_law nm)) dL_law_1511 ?_
  refine x_sald (M := (M_law nm)) dL_law_1512 (by decide) hx (vp_inD (by decide +kernel)) ?_
  refine x_top (M := (M_law nm)) (y := a2) ((congrArg xs (by decide +kernel : ((Int32.ofInt 1) + (Int32.ofInt 3)).toNatClampNeg = 4)).trans e4) ?_
  refine x_aload_n (M := (M_law nm)) dL_law_1513 rfl ?_
  refine y_callSW (M := (M_law nm)) (M' := M_L_simplify) rfl rfl dL_law_1514 m_L_simplify t_2184 t_2185 (q2652 hl c0 o2653) rfl rfl (Nat.le_of_ble_eq_true rfl) (Nat.le_of_ble_eq_true rfl) (Nat.le_of_ble_eq_true rfl) (Nat.le_of_ble_eq_true rfl) (fun h2654 f2655 w2656 => ?_)
  refine x_istore (M := (M_law nm)) dL_law_1517 (Nat.le_of_ble_eq_true rfl) rfl ?_
  refine x_aload_n (M := (M_law nm)) dL_law_1519 rfl ?_
  refine x_aload_n (M := (M_law nm)) dL_law_1520 rfl ?_
  refine x_iload (M := (M_law nm)) dL_law_1521 rfl ?_
  refine x_iconst (M := (M_law nm)) dL_law_1523 ?_
  refine x_iadd (M := (M_law nm)) dL_law_1524 ?_
  refine x_sald (M := (M_law nm)) dL_law_1525 (by decide) hx (vp_inD (by decide +kernel)) ?_
  refine x_top (M := (M_law nm)) (y := a0) ((congrArg xs (by decide +kernel : ((Int32.ofInt 1) + (Int32.ofInt 1)).toNatClampNeg = 2)).trans e2) ?_
  refine x_aload_n (M := (M_law nm)) dL_law_1526 rfl ?_
  refine x_iload (M := (M_law nm)) dL_law_1527 rfl ?_
  refine x_iconst (M := (M_law nm)) dL_law_1529 ?_
  refine x_iadd (M := (M_law nm)) dL_law_1530 ?_
  refine x_sald (M := (M_law nm)) dL_law_1531 (by decide) hx (vp_inD (by decide +kernel)) ?_
  refine x_top (M := (M_law nm)) (y := a1) ((congrArg xs (by decide +kernel : ((Int32.ofInt 1) + (Int32.ofInt 2)).toNatClampNeg = 3)).trans e3) ?_
  refine x_aload_n (M := (M_law nm)) dL_law_1532 rfl ?_
  refine x_iload (M := (M_law nm)) dL_law_1533 rfl ?_
  refine x_iconst (M := (M_law nm)) dL_law_1535 ?_
  refine x_iadd (M := (M_law nm)) dL_law_1536 ?_
  refine x_sald (M := (M_law nm)) dL_law_1537 (by decide) hx (vp_inD (by decide +kernel)) ?_
  refine x_top (M := (M_law nm)) (y := a2) ((congrArg xs (by decide +kernel : ((Int32.ofInt 1) + (Int32.ofInt 3)).toNatClampNeg = 4)).trans e4) ?_
  have o2667 := (f2655 277 _ (by decide) o2666)
  refine y_callVR (M := (M_law nm)) (M' := M_X12_simplify) rfl rfl dL_law_1538 m_X12_simplify t_3685 t_3686 t_3687 (q2665 hl c0 o2667) rfl rfl o2667 rfl (Nat.le_of_ble_eq_true rfl) (Nat.le_of_ble_eq_true rfl) (Nat.le_of_ble_eq_true rfl) (Nat.le_of_ble_eq_true rfl) (fun h2668 f2669 w2670 => ?_)
  obtain ⟨o2671, -⟩ := w2670
  refine x_istore (M := (M_law nm)) dL_law_1541 (Nat.le_of_ble_eq_true rfl) rfl ?_
  refine x_aload_n (M := (M_law nm)) dL_law_1543 rfl ?_
  refine x_callVR (M := (M_law nm)) (M' := M_X12_thrown) rfl rfl dL_law_1544 m_X12_thrown t_2797 t_2798 t_2799 (q35 hl o2671) rfl rfl o2671 rfl (Nat.le_of_ble_eq_true rfl) (Nat.le_of_ble_eq_true rfl) (Nat.le_of_ble_eq_true rfl) (Nat.le_of_ble_eq_true rfl) ?_
  refine x_iload (M := (M_law nm)) dL_law_1547 rfl ?_
  refine x_icmp_eq (M := (M_law nm)) (tgt := 1554) dL_law_1549 (by decide) (fun _ => ?_) (fun q => absurd q (by decide +kernel))
  refine x_iload (M := (M_law nm)) dL_law_1554 rfl ?_
  refine x_if_ne (M := (M_law nm)) (tgt := 1571) dL_law_1556 (by decide) (fun _ => ?_) (fun q => absurd q (by decide +kernel))
  refine x_goto (M := (M_law nm)) (tgt := 2449) dL_law_1571 (by decide) ?_
  refine x_iinc (M := (M_law nm)) dL_law_2449 rfl (Nat.le_of_ble_eq_true rfl) rfl ?_
  refine x_lvs (M := (M_law nm)) (lv' := [some (.ref 0), some (.ref 32), some (.ref 277), some (.ref 359), some (.int (Int32.ofInt 7)), some (.int (Int32.ofInt 1)), some (.int (Int32.ofInt 0)), none]) (by rw [(by decide +kernel : (Int32.ofInt 1) + Int32.ofInt 6 = (Int32.ofInt 7))] <;> rfl) ?_
  refine x_goto (M := (M_law nm)) (tgt := 33) dL_law_2452 (by decide) ?_
  refine x_iload (M := (M_law nm)) dL_law_33 rfl ?_
  refine x_aload_n (M := (M_law nm)) dL_law_35 rfl ?_
  refine x_slen (M := (M_law nm)) dL_law_36 (by decide) hx ?_
  refine x_bipush (M := (M_law nm)) dL_law_37 ?_
  refine x_isub (M := (M_law nm)) dL_law_39 ?_
  refine x_icmp_gt (M := (M_law nm)) (tgt := 2455) dL_law_40 (by decide) (fun _ => ?_) (fun q => absurd q (by decide +kernel))
  refine x_iconst (M := (M_law nm)) dL_law_2455 ?_
  exact x_zret (M := (M_law nm)) dL_law_2456 rfl (by decide) rfl (Nat.le_of_ble_eq_true rfl) (Nat.le_of_ble_eq_true rfl)
set_option maxRecDepth 10000 in
theorem q2679 {l : Launch} {E : EE} (hl : l.stackTraces = false) {h : HP} {a0 : Int32} {a1 : Int32} {a2 : Int32} (c0 : ¬ (a0.toInt < 0)) (c1 : a0.toInt < 32) (c2 : a1.toInt < 0) (o2674 : ob h 32 = some (.inr (14, [.ref 33, .ref 162, .ref 166, .int (0 : Int32), .int (0 : Int32), .int (0 : Int32), .ref 167, .ref 170, .ref 173, .ref 177, .ref 193, .ref 208, .ref 222, .ref 238, .ref 252, .ref 274, .ref 275, .ref 276, .int (0 : Int32)]))) (o2675 : ob h 33 = some (.inl (4, 32, .inr (.inr (.inr (.inr (shf 1 32))))))) : en_C l E M_X11_simplify 7 1 6 [.ref 32, .int a0, .int a1, .int a2] h (pT "java/lang/IndexOutOfBoundsException" [] h (fun _ => True)) := by
  refine en_mk m_X11_simplify rfl hl (Nat.le_of_ble_eq_true rfl) ?_
  refine x_aload_n (M := M_X11_simplify) dX11_simplify_0 rfl ?_
  refine x_iload_n (M := M_X11_simplify) dX11_simplify_1 rfl ?_
  refine x_callVR (M := M_X11_simplify) (M' := M_X11_slotNumbered) rfl rfl dX11_simplify_2 m_X11_slotNumbered t_744 t_746 s_2 (q425 hl c0 c1 o2674 o2675) rfl rfl o2674 rfl (Nat.le_of_ble_eq_true rfl) (Nat.le_of_ble_eq_true rfl) (Nat.le_of_ble_eq_true rfl) (Nat.le_of_ble_eq_true rfl) ?_
  refine x_astore (M := M_X11_simplify) dX11_simplify_5 (Nat.le_of_ble_eq_true rfl) rfl ?_
  refine x_aload_n (M := M_X11_simplify) dX11_simplify_7 rfl ?_
  refine x_iload_n (M := M_X11_simplify) dX11_simplify_8 rfl ?_
  exact y_callVX (M := M_X11_simplify) (M' := M_X11_slotNumbered) rfl rfl dX11_simplify_9 m_X11_slotNumbered t_744 t_746 s_2 (q1465 hl c2) rfl rfl o2674 rfl (Nat.le_of_ble_eq_true rfl) (Nat.le_of_ble_eq_true rfl) (Nat.le_of_ble_eq_true rfl) (Nat.le_of_ble_eq_true rfl) (fun h2676 f2677 w2678 => ⟨rfl, (fr_tr f2677 (fun _ h => nomatch h) fr_rf), trivial⟩)
set_option maxRecDepth 10000 in
theorem q2685 {l : Launch} {E : EE} (hl : l.stackTraces = false) {h : HP} {a0 : Int32} {a1 : Int32} {a2 : Int32} (c0 : ¬ (a0.toInt < 0)) (c1 : a0.toInt < 32) (c2 : a1.toInt < 0) (o2680 : ob h 32 = some (.inr (14, [.ref 33, .ref 162, .ref 166, .int (0 : Int32), .int (0 : Int32), .int (0 : Int32), .ref 167, .ref 170, .ref 173, .ref 177, .ref 193, .ref 208, .ref 222, .ref 238, .ref 252, .ref 274, .ref 275, .ref 276, .int (0 : Int32)]))) (o2681 : ob h 33 = some (.inl (4, 32, .inr (.inr (.inr (.inr (shf 1 32))))))) : en_C l E M_L_simplify 8 1 6 [.ref 32, .int a0, .int a1, .int a2, .ref 359] h (pF (some (.int (Int32.ofInt 1))) [] h (fun _ => True)) := by
  refine en_mkW m_L_simplify rfl hl (Nat.le_of_ble_eq_true rfl) ?_
  refine x_aload (M := M_L_simplify) dL_simplify_0 rfl ?_
  refine x_iconst (M := M_L_simplify) dL_simplify_2 ?_
  refine x_aload_n (M := M_L_simplify) dL_simplify_3 rfl ?_
  refine x_iload_n (M := M_L_simplify) dL_simplify_4 rfl ?_
  refine x_iload_n (M := M_L_simplify) dL_simplify_5 rfl ?_
  refine x_iload_n (M := M_L_simplify) dL_simplify_6 rfl ?_
  refine y_callVHX (M := M_L_simplify) (M' := M_X11_simplify) (i9 := 5) (nx := 17) rfl dL_simplify_7 m_X11_simplify t_2187 t_2188 t_2189 o2680 rfl (q2679 hl c0 c1 c2 o2680 o2681) rfl rfl (Nat.le_of_ble_eq_true rfl) (Nat.le_of_ble_eq_true rfl) (Nat.le_of_ble_eq_true rfl) (Nat.le_of_ble_eq_true rfl) (en_hdm (k0 := 5) [] [(0, 12, 19, 13), (0, 12, 23, 19)] rfl (fun _ h => nomatch h) (by decide +kernel) (by decide) t_739 n_750 dL_simplify_15) (by decide) rfl (fun h2682 f2683 w2684 => ?_)
  refine x_iconst (M := M_L_simplify) dL_simplify_17 ?_
  exact x_iret (M := M_L_simplify) dL_simplify_18 rfl ⟨rfl, (fr_tr f2683 (fun _ h => nomatch h) fr_rf), trivial⟩ (Nat.le_of_ble_eq_true rfl) (Nat.le_of_ble_eq_true rfl)
set_option maxRecDepth 10000 in
theorem q2699 {l : Launch} {E : EE} (hl : l.stackTraces = false) {h : HP} {a0 : Int32} {a1 : Int32} {a2 : Int32} {dg : Int32} (c0 : ¬ (a0.toInt < 0)) (c1 : a0.toInt < 32) (c2 : a1.toInt < 0) (o2691 : ob h 277 = some (.inr (15, (RB dg)))) : en_C l E M_X12_simplify 1 0 0 [.ref 277, .int a0, .int a1, .int a2] h (pF (some (.int (Int32.ofInt 0))) [277] h (fun h' => ob h' 277 = some (.inr (15, ((RB dg).set 0 (.int (Int32.ofInt 1))))) ∧ True)) := by
  refine en_mk m_X12_simplify rfl hl (Nat.le_of_ble_eq_true rfl) ?_
  refine x_aload_n (M := M_X12_simplify) dX12_simplify_0 rfl ?_
  refine x_iconst (M := M_X12_simplify) dX12_simplify_1 ?_
  refine y_put (M := M_X12_simplify) (ci := 15) (C := RX12) (T := TX12) (N := 135) (ty := tyX12) cl15 dX12_simplify_2 o2691 0 (by decide) t_2391 (Or.inl rfl) (Nat.le_of_ble_eq_true rfl) rfl (fun h2692 w2693 f2694 => ?_)
  refine x_aload_n (M := M_X12_simplify) dX12_simplify_5 rfl ?_
  refine x_iload_n (M := M_X12_simplify) dX12_simplify_6 rfl ?_
  refine x_callSR (M := M_X12_simplify) (M' := M_X12_isSlot) rfl rfl dX12_simplify_7 m_X12_isSlot t_2841 t_2842 (q447 hl c0 c1) rfl rfl (Nat.le_of_ble_eq_true rfl) (Nat.le_of_ble_eq_true rfl) (Nat.le_of_ble_eq_true rfl) (Nat.le_of_ble_eq_true rfl) ?_
  refine x_if_eq (M := M_X12_simplify) (tgt := 20) dX12_simplify_10 (by decide) (fun q => absurd q (by decide +kernel)) (fun _ => ?_)
  refine x_iload_n (M := M_X12_simplify) dX12_simplify_13 rfl ?_
  refine x_callSR (M := M_X12_simplify) (M' := M_X12_isSlot) rfl rfl dX12_simplify_14 m_X12_isSlot t_2841 t_2842 (q1485 hl c2) rfl rfl (Nat.le_of_ble_eq_true rfl) (Nat.le_of_ble_eq_true rfl) (Nat.le_of_ble_eq_true rfl) (Nat.le_of_ble_eq_true rfl) ?_
  refine x_if_ne (M := M_X12_simplify) (tgt := 24) dX12_simplify_17 (by decide) (fun q => absurd q (by decide +kernel)) (fun _ => ?_)
  refine x_iconst (M := M_X12_simplify) dX12_simplify_20 ?_
  refine x_goto (M := M_X12_simplify) (tgt := 25) dX12_simplify_21 (by decide) ?_
  refine x_iconst (M := M_X12_simplify) dX12_simplify_25 ?_
  refine y_callVR (M := M_X12_simplify) (M' := M_X12_fails) rfl rfl dX12_simplify_26 m_X12_fails t_2805 t_2807 s_157 (q22 hl w2693) rfl rfl w2693 rfl (Nat.le_of_ble_eq_true rfl) (Nat.le_of_ble_eq_true rfl) (Nat.le_of_ble_eq_true rfl) (Nat.le_of_ble_eq_true rfl) (fun h2695 f2696 w2697 => ?_)
  obtain ⟨o2698, -⟩ := w2697
  refine x_if_ne (M := M_X12_simplify) (tgt := 78) dX12_simplify_29 (by decide) (fun _ => ?_) (fun q => absurd q (by decide +kernel))
  refine x_iconst (M := M_X12_simplify) dX12_simplify_78 ?_
  exact x_iret (M := M_X12_simplify) dX12_simplify_79 rfl ⟨rfl, (fr_tr f2696 (by decide) (fr_tr f2694 (by decide) fr_rf)), ⟨o2698, trivial⟩⟩ (Nat.le_of_ble_eq_true rfl) (Nat.le_of_ble_eq_true rfl)
set_option maxRecDepth 10000 in
theorem lc20_1 {l : Launch} {E : EE} (hl : l.stackTraces = false) (nm : String) {xs : Nat → Int32} (hx : E.2.2.2.2 0 = some (7, xs)) {h : HP} {a0 : Int32} {a1 : Int32} {a2 : Int32} {dg : Int32} (e2 : xs 2 = a0) (e3 : xs 3 = a1) (e4 : xs 4 = a2) (c0 : ¬ (a0.toInt < 0)) (c1 : a0.toInt < 32) (c2 : a1.toInt < 0) (o2686 : ob h 32 = some (.inr (14, [.ref 33, .ref 162, .ref 166, .int (0 : Int32), .int (0 : Int32), .int (0 : Int32), .ref 167, .ref 170, .ref 173, .ref 177, .ref 193, .ref 208, .ref 222, .ref 238, .ref 252, .ref 274, .ref 275, .ref 276, .int (0 : Int32)]))) (o2687 : ob h 33 = some (.inl (4, 32, .inr (.inr (.inr (.inr (shf 1 32))))))) (o2700 : ob h 277 = some (.inr (15, (RB dg)))) : XX l E (M_law nm) 1312 342628 8074320 (fun o _ => o = .inl (some (.int 1))) 1494 [some (.ref 0), some (.ref 32), some (.ref 277), some (.ref 359), some (.int (Int32.ofInt 1)), none, none, none] [] h 328 2463747 := by
  refine x_aload_n (M := (M_law nm)) dL_law_1494 rfl ?_
  refine x_aload_n (M := (M_law nm)) dL_law_1495 rfl ?_
  refine x_iload (M := (M_law nm)) dL_law_1496 rfl ?_
  refine x_iconst (M := (M_law nm)) dL_law_1498 ?_
  refine x_iadd (M := (M_law nm)) dL_law_1499 ?_
  refine x_sald (M := (M_law nm)) dL_law_1500 (by decide) hx (vp_inD (by decide +kernel)) ?_
  refine x_top (M := (M_law nm)) (y := a0) ((congrArg xs (by decide +kernel : ((Int32.ofInt 1) + (Int32.ofInt 1)).toNatClampNeg = 2)).trans e2) ?_
  refine x_aload_n (M := (M_law nm)) dL_law_1501 rfl ?_
  refine x_iload (M := (M_law nm)) dL_law_1502 rfl ?_
  refine x_iconst (M := (M_law nm)) dL_law_1504 ?_
  refine x_iadd (M := (M_law nm)) dL_law_1505 ?_
  refine x_sald (M := (M_law nm)) dL_law_1506 (by decide) hx (vp_inD (by decide +kernel)) ?_
  refine x_top (M := (M_law nm)) (y := a1) ((congrArg xs (by decide +kernel : ((Int32.ofInt 1) + (Int32.ofInt 2)).toNatClampNeg = 3)).trans e3) ?_
  refine x_aload_n (M := (M_law nm)) dL_law_1507 rfl ?_
  refine x_iload (M := (M_law nm)) dL_law_1508 rfl ?_
  refine x_iconst (M := (M_law nm)) dL_law_1510 ?_
  refine x_iadd (M := (M_law nm)) dL_law_1511 ?_
  refine x_sald (M := (M_law nm)) dL_law_1512 (by decide) hx (vp_inD (by decide +kernel)) ?_
  refine x_top (M := (M_law nm)) (y := a2) ((congrArg xs (by decide +kernel : ((Int32.ofInt 1) + (Int32.ofInt 3)).toNatClampNeg = 4)).trans e4) ?_
  refine x_aload_n (M := (M_law nm)) dL_law_1513 rfl ?_
  refine y_callSW (M := (M_law nm)) (M' := M_L_simplify) rfl rfl dL_law_1514 m_L_simplify t_2184 t_2185 (q2685 hl c0 c1 c2 o2686 o2687) rfl rfl (Nat.le_of_ble_eq_true rfl) (Nat.le_of_ble_eq_true rfl) (Nat.le_of_ble_eq_true rfl) (Nat.le_of_ble_eq_true rfl) (fun h2688 f2689 w2690 => ?_)
  refine x_istore (M := (M_law nm)) dL_law_1517 (Nat.le_of_ble_eq_true rfl) rfl ?_
  refine x_aload_n (M := (M_law nm)) dL_law_1519 rfl ?_
  refine x_aload_n (M := (M_law nm)) dL_law_1520 rfl ?_
  refine x_iload (M := (M_law nm)) dL_law_1521 rfl ?_
  refine x_iconst (M := (M_law nm)) dL_law_1523 ?_
  refine x_iadd (M := (M_law nm)) dL_law_1524 ?_
  refine x_sald (M := (M_law nm)) dL_law_1525 (by decide) hx (vp_inD (by decide +kernel)) ?_
  refine x_top (M := (M_law nm)) (y := a0) ((congrArg xs (by decide +kernel : ((Int32.ofInt 1) + (Int32.ofInt 1)).toNatClampNeg = 2)).trans e2) ?_
  refine x_aload_n (M := (M_law nm)) dL_law_1526 rfl ?_
  refine x_iload (M := (M_law nm)) dL_law_1527 rfl ?_
  refine x_iconst (M := (M_law nm)) dL_law_1529 ?_
  refine x_iadd (M := (M_law nm)) dL_law_1530 ?_
  refine x_sald (M := (M_law nm)) dL_law_1531 (by decide) hx (vp_inD (by decide +kernel)) ?_
  refine x_top (M := (M_law nm)) (y := a1) ((congrArg xs (by decide +kernel : ((Int32.ofInt 1) + (Int32.ofInt 2)).toNatClampNeg = 3)).trans e3) ?_
  refine x_aload_n (M := (M_law nm)) dL_law_1532 rfl ?_
  refine x_iload (M := (M_law nm)) dL_law_1533 rfl ?_
  refine x_iconst (M := (M_law nm)) dL_law_1535 ?_
  refine x_iadd (M := (M_law nm)) dL_law_1536 ?_
  refine x_sald (M := (M_law nm)) dL_law_1537 (by decide) hx (vp_inD (by decide +kernel)) ?_
  refine x_top (M := (M_law nm)) (y := a2) ((congrArg xs (by decide +kernel : ((Int32.ofInt 1) + (Int32.ofInt 3)).toNatClampNeg = 4)).trans e4) ?_
  have o2701 := (f2689 277 _ (by decide) o2700)
  refine y_callVR (M := (M_law nm)) (M' := M_X12_simplify) rfl rfl dL_law_1538 m_X12_simplify t_3685 t_3686 t_3687 (q2699 hl c0 c1 c2 o2701) rfl rfl o2701 rfl (Nat.le_of_ble_eq_true rfl) (Nat.le_of_ble_eq_true rfl) (Nat.le_of_ble_eq_true rfl) (Nat.le_of_ble_eq_true rfl) (fun h2702 f2703 w2704 => ?_)
  obtain ⟨o2705, -⟩ := w2704
  refine x_istore (M := (M_law nm)) dL_law_1541 (Nat.le_of_ble_eq_true rfl) rfl ?_
  refine x_aload_n (M := (M_law nm)) dL_law_1543 rfl ?_
  refine x_callVR (M := (M_law nm)) (M' := M_X12_thrown) rfl rfl dL_law_1544 m_X12_thrown t_2797 t_2798 t_2799 (q35 hl o2705) rfl rfl o2705 rfl (Nat.le_of_ble_eq_true rfl) (Nat.le_of_ble_eq_true rfl) (Nat.le_of_ble_eq_true rfl) (Nat.le_of_ble_eq_true rfl) ?_
  refine x_iload (M := (M_law nm)) dL_law_1547 rfl ?_
  refine x_icmp_eq (M := (M_law nm)) (tgt := 1554) dL_law_1549 (by decide) (fun _ => ?_) (fun q => absurd q (by decide +kernel))
  refine x_iload (M := (M_law nm)) dL_law_1554 rfl ?_
  refine x_if_ne (M := (M_law nm)) (tgt := 1571) dL_law_1556 (by decide) (fun _ => ?_) (fun q => absurd q (by decide +kernel))
  refine x_goto (M := (M_law nm)) (tgt := 2449) dL_law_1571 (by decide) ?_
  refine x_iinc (M := (M_law nm)) dL_law_2449 rfl (Nat.le_of_ble_eq_true rfl) rfl ?_
  refine x_lvs (M := (M_law nm)) (lv' := [some (.ref 0), some (.ref 32), some (.ref 277), some (.ref 359), some (.int (Int32.ofInt 7)), some (.int (Int32.ofInt 1)), some (.int (Int32.ofInt 0)), none]) (by rw [(by decide +kernel : (Int32.ofInt 1) + Int32.ofInt 6 = (Int32.ofInt 7))] <;> rfl) ?_
  refine x_goto (M := (M_law nm)) (tgt := 33) dL_law_2452 (by decide) ?_
  refine x_iload (M := (M_law nm)) dL_law_33 rfl ?_
  refine x_aload_n (M := (M_law nm)) dL_law_35 rfl ?_
  refine x_slen (M := (M_law nm)) dL_law_36 (by decide) hx ?_
  refine x_bipush (M := (M_law nm)) dL_law_37 ?_
  refine x_isub (M := (M_law nm)) dL_law_39 ?_
  refine x_icmp_gt (M := (M_law nm)) (tgt := 2455) dL_law_40 (by decide) (fun _ => ?_) (fun q => absurd q (by decide +kernel))
  refine x_iconst (M := (M_law nm)) dL_law_2455 ?_
  exact x_zret (M := (M_law nm)) dL_law_2456 rfl (by decide) rfl (Nat.le_of_ble_eq_true rfl) (Nat.le_of_ble_eq_true rfl)
set_option maxRecDepth 10000 in
theorem q2714 {l : Launch} {E : EE} (hl : l.stackTraces = false) {h : HP} {a0 : Int32} {a1 : Int32} {a2 : Int32} (c0 : ¬ (a0.toInt < 0)) (c1 : a0.toInt < 32) (c2 : ¬ (a1.toInt < 0)) (c3 : a1.toInt < 32) (o2708 : ob h 32 = some (.inr (14, [.ref 33, .ref 162, .ref 166, .int (0 : Int32), .int (0 : Int32), .int (0 : Int32), .ref 167, .ref 170, .ref 173, .ref 177, .ref 193, .ref 208, .ref 222, .ref 238, .ref 252, .ref 274, .ref 275, .ref 276, .int (0 : Int32)]))) (o2709 : ob h 33 = some (.inl (4, 32, .inr (.inr (.inr (.inr (shf 1 32))))))) (o2710 : ob h (34 + 4 * a0.toNatClampNeg) = some (.inr (9, [.ref (35 + 4 * a0.toNatClampNeg), .ref (36 + 4 * a0.toNatClampNeg), .ref (37 + 4 * a0.toNatClampNeg), .int (0 : Int32), .int (0 : Int32)]))) : en_C l E M_X11_simplify 7 1 6 [.ref 32, .int a0, .int a1, .int a2] h (pT "java/lang/IllegalStateException" [] h (fun _ => True)) := by
  have n_a0 : a0.toNatClampNeg < 32 := nc_lt (by omega) (by decide)
  refine en_mk m_X11_simplify rfl hl (Nat.le_of_ble_eq_true rfl) ?_
  refine x_aload_n (M := M_X11_simplify) dX11_simplify_0 rfl ?_
  refine x_iload_n (M := M_X11_simplify) dX11_simplify_1 rfl ?_
  refine x_callVR (M := M_X11_simplify) (M' := M_X11_slotNumbered) rfl rfl dX11_simplify_2 m_X11_slotNumbered t_744 t_746 s_2 (q425 hl c0 c1 o2708 o2709) rfl rfl o2708 rfl (Nat.le_of_ble_eq_true rfl) (Nat.le_of_ble_eq_true rfl) (Nat.le_of_ble_eq_true rfl) (Nat.le_of_ble_eq_true rfl) ?_
  refine x_astore (M := M_X11_simplify) dX11_simplify_5 (Nat.le_of_ble_eq_true rfl) rfl ?_
  refine x_aload_n (M := M_X11_simplify) dX11_simplify_7 rfl ?_
  refine x_iload_n (M := M_X11_simplify) dX11_simplify_8 rfl ?_
  refine x_callVR (M := M_X11_simplify) (M' := M_X11_slotNumbered) rfl rfl dX11_simplify_9 m_X11_slotNumbered t_744 t_746 s_2 (q1503 hl c2 c3 o2708 o2709) rfl rfl o2708 rfl (Nat.le_of_ble_eq_true rfl) (Nat.le_of_ble_eq_true rfl) (Nat.le_of_ble_eq_true rfl) (Nat.le_of_ble_eq_true rfl) ?_
  refine x_astore (M := M_X11_simplify) dX11_simplify_12 (Nat.le_of_ble_eq_true rfl) rfl ?_
  refine x_aload (M := M_X11_simplify) dX11_simplify_14 rfl ?_
  exact y_callSX (M := M_X11_simplify) (M' := M_X11_mustBeThere) rfl rfl dX11_simplify_16 m_X11_mustBeThere t_1047 t_1048 (q810 hl c0 c1 o2710) rfl rfl (Nat.le_of_ble_eq_true rfl) (Nat.le_of_ble_eq_true rfl) (Nat.le_of_ble_eq_true rfl) (Nat.le_of_ble_eq_true rfl) (fun h2711 f2712 w2713 => ⟨rfl, (fr_tr f2712 (fun _ h => nomatch h) fr_rf), trivial⟩)
set_option maxRecDepth 10000 in
theorem q2721 {l : Launch} {E : EE} (hl : l.stackTraces = false) {h : HP} {a0 : Int32} {a1 : Int32} {a2 : Int32} (c0 : ¬ (a0.toInt < 0)) (c1 : a0.toInt < 32) (c2 : ¬ (a1.toInt < 0)) (c3 : a1.toInt < 32) (o2715 : ob h 32 = some (.inr (14, [.ref 33, .ref 162, .ref 166, .int (0 : Int32), .int (0 : Int32), .int (0 : Int32), .ref 167, .ref 170, .ref 173, .ref 177, .ref 193, .ref 208, .ref 222, .ref 238, .ref 252, .ref 274, .ref 275, .ref 276, .int (0 : Int32)]))) (o2716 : ob h 33 = some (.inl (4, 32, .inr (.inr (.inr (.inr (shf 1 32))))))) (o2717 : ob h (34 + 4 * a0.toNatClampNeg) = some (.inr (9, [.ref (35 + 4 * a0.toNatClampNeg), .ref (36 + 4 * a0.toNatClampNeg), .ref (37 + 4 * a0.toNatClampNeg), .int (0 : Int32), .int (0 : Int32)]))) : en_C l E M_L_simplify 8 1 6 [.ref 32, .int a0, .int a1, .int a2, .ref 359] h (pF (some (.int (Int32.ofInt 2))) [] h (fun _ => True)) := by
  have n_a0 : a0.toNatClampNeg < 32 := nc_lt (by omega) (by decide)
  refine en_mkW m_L_simplify rfl hl (Nat.le_of_ble_eq_true rfl) ?_
  refine x_aload (M := M_L_simplify) dL_simplify_0 rfl ?_
  refine x_iconst (M := M_L_simplify) dL_simplify_2 ?_
  refine x_aload_n (M := M_L_simplify) dL_simplify_3 rfl ?_
  refine x_iload_n (M := M_L_simplify) dL_simplify_4 rfl ?_
  refine x_iload_n (M := M_L_simplify) dL_simplify_5 rfl ?_
  refine x_iload_n (M := M_L_simplify) dL_simplify_6 rfl ?_
  refine y_callVHX (M := M_L_simplify) (M' := M_X11_simplify) (i9 := 5) (nx := 21) rfl dL_simplify_7 m_X11_simplify t_2187 t_2188 t_2189 o2715 rfl (q2714 hl c0 c1 c2 c3 o2715 o2716 o2717) rfl rfl (Nat.le_of_ble_eq_true rfl) (Nat.le_of_ble_eq_true rfl) (Nat.le_of_ble_eq_true rfl) (Nat.le_of_ble_eq_true rfl) (en_hdm (k0 := 5) [(0, 12, 15, 24)] [(0, 12, 23, 19)] rfl (List.forall_mem_cons.mpr ⟨⟨by decide, "java/lang/IndexOutOfBoundsException", t_739, by decide +kernel, by decide +kernel, by decide +kernel⟩, (fun _ h => nomatch h)⟩) (by decide +kernel) (by decide) t_637 n_645 dL_simplify_19) (by decide) rfl (fun h2718 f2719 w2720 => ?_)
  refine x_iconst (M := M_L_simplify) dL_simplify_21 ?_
  exact x_iret (M := M_L_simplify) dL_simplify_22 rfl ⟨rfl, (fr_tr f2719 (fun _ h => nomatch h) fr_rf), trivial⟩ (Nat.le_of_ble_eq_true rfl) (Nat.le_of_ble_eq_true rfl)
set_option maxRecDepth 10000 in
theorem q2742 {l : Launch} {E : EE} (hl : l.stackTraces = false) {h : HP} {a0 : Int32} {a1 : Int32} {a2 : Int32} {dg : Int32} (c0 : ¬ (a0.toInt < 0)) (c1 : a0.toInt < 32) (c2 : ¬ (a1.toInt < 0)) (c3 : a1.toInt < 32) (o2728 : ob h 277 = some (.inr (15, (RB dg)))) (o2736 : ob h 280 = some (.inl (0, 33, .inl (fun _ => 0)))) : en_C l E M_X12_simplify 1 0 0 [.ref 277, .int a0, .int a1, .int a2] h (pF (some (.int (Int32.ofInt 0))) [277] h (fun h' => ob h' 277 = some (.inr (15, ((RB dg).set 0 (.int (Int32.ofInt 2))))) ∧ True)) := by
  refine en_mk m_X12_simplify rfl hl (Nat.le_of_ble_eq_true rfl) ?_
  refine x_aload_n (M := M_X12_simplify) dX12_simplify_0 rfl ?_
  refine x_iconst (M := M_X12_simplify) dX12_simplify_1 ?_
  refine y_put (M := M_X12_simplify) (ci := 15) (C := RX12) (T := TX12) (N := 135) (ty := tyX12) cl15 dX12_simplify_2 o2728 0 (by decide) t_2391 (Or.inl rfl) (Nat.le_of_ble_eq_true rfl) rfl (fun h2729 w2730 f2731 => ?_)
  refine x_aload_n (M := M_X12_simplify) dX12_simplify_5 rfl ?_
  refine x_iload_n (M := M_X12_simplify) dX12_simplify_6 rfl ?_
  refine x_callSR (M := M_X12_simplify) (M' := M_X12_isSlot) rfl rfl dX12_simplify_7 m_X12_isSlot t_2841 t_2842 (q447 hl c0 c1) rfl rfl (Nat.le_of_ble_eq_true rfl) (Nat.le_of_ble_eq_true rfl) (Nat.le_of_ble_eq_true rfl) (Nat.le_of_ble_eq_true rfl) ?_
  refine x_if_eq (M := M_X12_simplify) (tgt := 20) dX12_simplify_10 (by decide) (fun q => absurd q (by decide +kernel)) (fun _ => ?_)
  refine x_iload_n (M := M_X12_simplify) dX12_simplify_13 rfl ?_
  refine x_callSR (M := M_X12_simplify) (M' := M_X12_isSlot) rfl rfl dX12_simplify_14 m_X12_isSlot t_2841 t_2842 (q1536 hl c2 c3) rfl rfl (Nat.le_of_ble_eq_true rfl) (Nat.le_of_ble_eq_true rfl) (Nat.le_of_ble_eq_true rfl) (Nat.le_of_ble_eq_true rfl) ?_
  refine x_if_ne (M := M_X12_simplify) (tgt := 24) dX12_simplify_17 (by decide) (fun _ => ?_) (fun q => absurd q (by decide +kernel))
  refine x_iconst (M := M_X12_simplify) dX12_simplify_24 ?_
  refine x_iconst (M := M_X12_simplify) dX12_simplify_25 ?_
  refine y_callVR (M := M_X12_simplify) (M' := M_X12_fails) rfl rfl dX12_simplify_26 m_X12_fails t_2805 t_2807 s_157 (q241 hl w2730) rfl rfl w2730 rfl (Nat.le_of_ble_eq_true rfl) (Nat.le_of_ble_eq_true rfl) (Nat.le_of_ble_eq_true rfl) (Nat.le_of_ble_eq_true rfl) (fun h2732 f2733 w2734 => ?_)
  obtain ⟨o2735, -⟩ := w2734
  refine x_if_ne (M := M_X12_simplify) (tgt := 78) dX12_simplify_29 (by decide) (fun q => absurd q (by decide +kernel)) (fun _ => ?_)
  refine x_aload_n (M := M_X12_simplify) dX12_simplify_32 rfl ?_
  refine x_aload_n (M := M_X12_simplify) dX12_simplify_33 rfl ?_
  refine x_iload_n (M := M_X12_simplify) dX12_simplify_34 rfl ?_
  have o2737 := (f2733 280 _ (by decide) (f2731 280 _ (by decide) o2736))
  refine x_callVR (M := M_X12_simplify) (M' := M_X12_has) rfl rfl dX12_simplify_35 m_X12_has t_3033 t_3035 s_197 (q839 hl c0 c1 o2735 o2737) rfl rfl o2735 rfl (Nat.le_of_ble_eq_true rfl) (Nat.le_of_ble_eq_true rfl) (Nat.le_of_ble_eq_true rfl) (Nat.le_of_ble_eq_true rfl) ?_
  refine x_if_ne (M := M_X12_simplify) (tgt := 45) dX12_simplify_38 (by decide) (fun q => absurd q (by decide +kernel)) (fun _ => ?_)
  refine x_iconst (M := M_X12_simplify) dX12_simplify_41 ?_
  refine x_goto (M := M_X12_simplify) (tgt := 46) dX12_simplify_42 (by decide) ?_
  refine x_iconst (M := M_X12_simplify) dX12_simplify_46 ?_
  refine y_callVR (M := M_X12_simplify) (M' := M_X12_fails) rfl rfl dX12_simplify_47 m_X12_fails t_2805 t_2807 s_157 (q761 hl o2735) rfl rfl o2735 rfl (Nat.le_of_ble_eq_true rfl) (Nat.le_of_ble_eq_true rfl) (Nat.le_of_ble_eq_true rfl) (Nat.le_of_ble_eq_true rfl) (fun h2738 f2739 w2740 => ?_)
  obtain ⟨o2741, -⟩ := w2740
  refine x_if_ne (M := M_X12_simplify) (tgt := 78) dX12_simplify_50 (by decide) (fun _ => ?_) (fun q => absurd q (by decide +kernel))
  refine x_iconst (M := M_X12_simplify) dX12_simplify_78 ?_
  exact x_iret (M := M_X12_simplify) dX12_simplify_79 rfl ⟨rfl, (fr_tr f2739 (by decide) (fr_tr f2733 (by decide) (fr_tr f2731 (by decide) fr_rf))), ⟨o2741, trivial⟩⟩ (Nat.le_of_ble_eq_true rfl) (Nat.le_of_ble_eq_true rfl)
set_option maxRecDepth 10000 in
theorem lc20_2 {l : Launch} {E : EE} (hl : l.stackTraces = false) (nm : String) {xs : Nat → Int32} (hx : E.2.2.2.2 0 = some (7, xs)) {h : HP} {a0 : Int32} {a1 : Int32} {a2 : Int32} {dg : Int32} (e2 : xs 2 = a0) (e3 : xs 3 = a1) (e4 : xs 4 = a2) (c0 : ¬ (a0.toInt < 0)) (c1 : a0.toInt < 32) (c2 : ¬ (a1.toInt < 0)) (c3 : a1.toInt < 32) (o2722 : ob h 32 = some (.inr (14, [.ref 33, .ref 162, .ref 166, .int (0 : Int32), .int (0 : Int32), .int (0 : Int32), .ref 167, .ref 170, .ref 173, .ref 177, .ref 193, .ref 208, .ref 222, .ref 238, .ref 252, .ref 274, .ref 275, .ref 276, .int (0 : Int32)]))) (o2723 : ob h 33 = some (.inl (4, 32, .inr (.inr (.inr (.inr (shf 1 32))))))) (o2724 : ob h (34 + 4 * a0.toNatClampNeg) = some (.inr (9, [.ref (35 + 4 * a0.toNatClampNeg), .ref (36 + 4 * a0.toNatClampNeg), .ref (37 + 4 * a0.toNatClampNeg), .int (0 : Int32), .int (0 : Int32)]))) (o2743 : ob h 277 = some (.inr (15, (RB dg)))) (o2745 : ob h 280 = some (.inl (0, 33, .inl (fun _ => 0)))) : XX l E (M_law nm) 1312 342628 8074320 (fun o _ => o = .inl (some (.int 1))) 1494 [some (.ref 0), some (.ref 32), some (.ref 277), some (.ref 359), some (.int (Int32.ofInt 1)), none, none, none] [] h 328 2463747 := by
  have n_a0 : a0.toNatClampNeg < 32 := nc_lt (by omega) (by decide)
  refine x_aload_n (M := (M_law nm)) dL_law_1494 rfl ?_
  refine x_aload_n (M := (M_law nm)) dL_law_1495 rfl ?_
  refine x_iload (M := (M_law nm)) dL_law_1496 rfl ?_
  refine x_iconst (M := (M_law nm)) dL_law_1498 ?_
  refine x_iadd (M := (M_law nm)) dL_law_1499 ?_
  refine x_sald (M := (M_law nm)) dL_law_1500 (by decide) hx (vp_inD (by decide +kernel)) ?_
  refine x_top (M := (M_law nm)) (y := a0) ((congrArg xs (by decide +kernel : ((Int32.ofInt 1) + (Int32.ofInt 1)).toNatClampNeg = 2)).trans e2) ?_
  refine x_aload_n (M := (M_law nm)) dL_law_1501 rfl ?_
  refine x_iload (M := (M_law nm)) dL_law_1502 rfl ?_
  refine x_iconst (M := (M_law nm)) dL_law_1504 ?_
  refine x_iadd (M := (M_law nm)) dL_law_1505 ?_
  refine x_sald (M := (M_law nm)) dL_law_1506 (by decide) hx (vp_inD (by decide +kernel)) ?_
  refine x_top (M := (M_law nm)) (y := a1) ((congrArg xs (by decide +kernel : ((Int32.ofInt 1) + (Int32.ofInt 2)).toNatClampNeg = 3)).trans e3) ?_
  refine x_aload_n (M := (M_law nm)) dL_law_1507 rfl ?_
  refine x_iload (M := (M_law nm)) dL_law_1508 rfl ?_
  refine x_iconst (M := (M_law nm)) dL_law_1510 ?_
  refine x_iadd (M := (M_law nm)) dL_law_1511 ?_
  refine x_sald (M := (M_law nm)) dL_law_1512 (by decide) hx (vp_inD (by decide +kernel)) ?_
  refine x_top (M := (M_law nm)) (y := a2) ((congrArg xs (by decide +kernel : ((Int32.ofInt 1) + (Int32.ofInt 3)).toNatClampNeg = 4)).trans e4) ?_
  refine x_aload_n (M := (M_law nm)) dL_law_1513 rfl ?_
  refine y_callSW (M := (M_law nm)) (M' := M_L_simplify) rfl rfl dL_law_1514 m_L_simplify t_2184 t_2185 (q2721 hl c0 c1 c2 c3 o2722 o2723 o2724) rfl rfl (Nat.le_of_ble_eq_true rfl) (Nat.le_of_ble_eq_true rfl) (Nat.le_of_ble_eq_true rfl) (Nat.le_of_ble_eq_true rfl) (fun h2725 f2726 w2727 => ?_)
  refine x_istore (M := (M_law nm)) dL_law_1517 (Nat.le_of_ble_eq_true rfl) rfl ?_
  refine x_aload_n (M := (M_law nm)) dL_law_1519 rfl ?_
  refine x_aload_n (M := (M_law nm)) dL_law_1520 rfl ?_
  refine x_iload (M := (M_law nm)) dL_law_1521 rfl ?_
  refine x_iconst (M := (M_law nm)) dL_law_1523 ?_
  refine x_iadd (M := (M_law nm)) dL_law_1524 ?_
  refine x_sald (M := (M_law nm)) dL_law_1525 (by decide) hx (vp_inD (by decide +kernel)) ?_
  refine x_top (M := (M_law nm)) (y := a0) ((congrArg xs (by decide +kernel : ((Int32.ofInt 1) + (Int32.ofInt 1)).toNatClampNeg = 2)).trans e2) ?_
  refine x_aload_n (M := (M_law nm)) dL_law_1526 rfl ?_
  refine x_iload (M := (M_law nm)) dL_law_1527 rfl ?_
  refine x_iconst (M := (M_law nm)) dL_law_1529 ?_
  refine x_iadd (M := (M_law nm)) dL_law_1530 ?_
  refine x_sald (M := (M_law nm)) dL_law_1531 (by decide) hx (vp_inD (by decide +kernel)) ?_
  refine x_top (M := (M_law nm)) (y := a1) ((congrArg xs (by decide +kernel : ((Int32.ofInt 1) + (Int32.ofInt 2)).toNatClampNeg = 3)).trans e3) ?_
  refine x_aload_n (M := (M_law nm)) dL_law_1532 rfl ?_
  refine x_iload (M := (M_law nm)) dL_law_1533 rfl ?_
  refine x_iconst (M := (M_law nm)) dL_law_1535 ?_
  refine x_iadd (M := (M_law nm)) dL_law_1536 ?_
  refine x_sald (M := (M_law nm)) dL_law_1537 (by decide) hx (vp_inD (by decide +kernel)) ?_
  refine x_top (M := (M_law nm)) (y := a2) ((congrArg xs (by decide +kernel : ((Int32.ofInt 1) + (Int32.ofInt 3)).toNatClampNeg = 4)).trans e4) ?_
  have o2744 := (f2726 277 _ (by decide) o2743)
  have o2746 := (f2726 280 _ (by decide) o2745)
  refine y_callVR (M := (M_law nm)) (M' := M_X12_simplify) rfl rfl dL_law_1538 m_X12_simplify t_3685 t_3686 t_3687 (q2742 hl c0 c1 c2 c3 o2744 o2746) rfl rfl o2744 rfl (Nat.le_of_ble_eq_true rfl) (Nat.le_of_ble_eq_true rfl) (Nat.le_of_ble_eq_true rfl) (Nat.le_of_ble_eq_true rfl) (fun h2747 f2748 w2749 => ?_)
  obtain ⟨o2750, -⟩ := w2749
  refine x_istore (M := (M_law nm)) dL_law_1541 (Nat.le_of_ble_eq_true rfl) rfl ?_
  refine x_aload_n (M := (M_law nm)) dL_law_1543 rfl ?_
  refine x_callVR (M := (M_law nm)) (M' := M_X12_thrown) rfl rfl dL_law_1544 m_X12_thrown t_2797 t_2798 t_2799 (q774 hl o2750) rfl rfl o2750 rfl (Nat.le_of_ble_eq_true rfl) (Nat.le_of_ble_eq_true rfl) (Nat.le_of_ble_eq_true rfl) (Nat.le_of_ble_eq_true rfl) ?_
  refine x_iload (M := (M_law nm)) dL_law_1547 rfl ?_
  refine x_icmp_eq (M := (M_law nm)) (tgt := 1554) dL_law_1549 (by decide) (fun _ => ?_) (fun q => absurd q (by decide +kernel))
  refine x_iload (M := (M_law nm)) dL_law_1554 rfl ?_
  refine x_if_ne (M := (M_law nm)) (tgt := 1571) dL_law_1556 (by decide) (fun _ => ?_) (fun q => absurd q (by decide +kernel))
  refine x_goto (M := (M_law nm)) (tgt := 2449) dL_law_1571 (by decide) ?_
  refine x_iinc (M := (M_law nm)) dL_law_2449 rfl (Nat.le_of_ble_eq_true rfl) rfl ?_
  refine x_lvs (M := (M_law nm)) (lv' := [some (.ref 0), some (.ref 32), some (.ref 277), some (.ref 359), some (.int (Int32.ofInt 7)), some (.int (Int32.ofInt 2)), some (.int (Int32.ofInt 0)), none]) (by rw [(by decide +kernel : (Int32.ofInt 1) + Int32.ofInt 6 = (Int32.ofInt 7))] <;> rfl) ?_
  refine x_goto (M := (M_law nm)) (tgt := 33) dL_law_2452 (by decide) ?_
  refine x_iload (M := (M_law nm)) dL_law_33 rfl ?_
  refine x_aload_n (M := (M_law nm)) dL_law_35 rfl ?_
  refine x_slen (M := (M_law nm)) dL_law_36 (by decide) hx ?_
  refine x_bipush (M := (M_law nm)) dL_law_37 ?_
  refine x_isub (M := (M_law nm)) dL_law_39 ?_
  refine x_icmp_gt (M := (M_law nm)) (tgt := 2455) dL_law_40 (by decide) (fun _ => ?_) (fun q => absurd q (by decide +kernel))
  refine x_iconst (M := (M_law nm)) dL_law_2455 ?_
  exact x_zret (M := (M_law nm)) dL_law_2456 rfl (by decide) rfl (Nat.le_of_ble_eq_true rfl) (Nat.le_of_ble_eq_true rfl)
set_option maxRecDepth 10000 in
theorem q2756 {l : Launch} {E : EE} (hl : l.stackTraces = false) {h : HP} {a0 : Int32} {a1 : Int32} {a2 : Int32} (c0 : ¬ (a0.toInt < 0)) (c1 : a0.toInt < 32) (c2 : ¬ (a1.toInt < 0)) (c3 : ¬ (a1.toInt < 32)) (o2751 : ob h 32 = some (.inr (14, [.ref 33, .ref 162, .ref 166, .int (0 : Int32), .int (0 : Int32), .int (0 : Int32), .ref 167, .ref 170, .ref 173, .ref 177, .ref 193, .ref 208, .ref 222, .ref 238, .ref 252, .ref 274, .ref 275, .ref 276, .int (0 : Int32)]))) (o2752 : ob h 33 = some (.inl (4, 32, .inr (.inr (.inr (.inr (shf 1 32))))))) : en_C l E M_X11_simplify 7 1 6 [.ref 32, .int a0, .int a1, .int a2] h (pT "java/lang/IndexOutOfBoundsException" [] h (fun _ => True)) := by
  refine en_mk m_X11_simplify rfl hl (Nat.le_of_ble_eq_true rfl) ?_
  refine x_aload_n (M := M_X11_simplify) dX11_simplify_0 rfl ?_
  refine x_iload_n (M := M_X11_simplify) dX11_simplify_1 rfl ?_
  refine x_callVR (M := M_X11_simplify) (M' := M_X11_slotNumbered) rfl rfl dX11_simplify_2 m_X11_slotNumbered t_744 t_746 s_2 (q425 hl c0 c1 o2751 o2752) rfl rfl o2751 rfl (Nat.le_of_ble_eq_true rfl) (Nat.le_of_ble_eq_true rfl) (Nat.le_of_ble_eq_true rfl) (Nat.le_of_ble_eq_true rfl) ?_
  refine x_astore (M := M_X11_simplify) dX11_simplify_5 (Nat.le_of_ble_eq_true rfl) rfl ?_
  refine x_aload_n (M := M_X11_simplify) dX11_simplify_7 rfl ?_
  refine x_iload_n (M := M_X11_simplify) dX11_simplify_8 rfl ?_
  exact y_callVX (M := M_X11_simplify) (M' := M_X11_slotNumbered) rfl rfl dX11_simplify_9 m_X11_slotNumbered t_744 t_746 s_2 (q1560 hl c2 c3) rfl rfl o2751 rfl (Nat.le_of_ble_eq_true rfl) (Nat.le_of_ble_eq_true rfl) (Nat.le_of_ble_eq_true rfl) (Nat.le_of_ble_eq_true rfl) (fun h2753 f2754 w2755 => ⟨rfl, (fr_tr f2754 (fun _ h => nomatch h) fr_rf), trivial⟩)
set_option maxRecDepth 10000 in
theorem q2762 {l : Launch} {E : EE} (hl : l.stackTraces = false) {h : HP} {a0 : Int32} {a1 : Int32} {a2 : Int32} (c0 : ¬ (a0.toInt < 0)) (c1 : a0.toInt < 32) (c2 : ¬ (a1.toInt < 0)) (c3 : ¬ (a1.toInt < 32)) (o2757 : ob h 32 = some (.inr (14, [.ref 33, .ref 162, .ref 166, .int (0 : Int32), .int (0 : Int32), .int (0 : Int32), .ref 167, .ref 170, .ref 173, .ref 177, .ref 193, .ref 208, .ref 222, .ref 238, .ref 252, .ref 274, .ref 275, .ref 276, .int (0 : Int32)]))) (o2758 : ob h 33 = some (.inl (4, 32, .inr (.inr (.inr (.inr (shf 1 32))))))) : en_C l E M_L_simplify 8 1 6 [.ref 32, .int a0, .int a1, .int a2, .ref 359] h (pF (some (.int (Int32.ofInt 1))) [] h (fun _ => True)) := by
  refine en_mkW m_L_simplify rfl hl (Nat.le_of_ble_eq_true rfl) ?_
  refine x_aload (M := M_L_simplify) dL_simplify_0 rfl ?_
  refine x_iconst (M := M_L_simplify) dL_simplify_2 ?_
  refine x_aload_n (M := M_L_simplify) dL_simplify_3 rfl ?_
  refine x_iload_n (M := M_L_simplify) dL_simplify_4 rfl ?_
  refine x_iload_n (M := M_L_simplify) dL_simplify_5 rfl ?_
  refine x_iload_n (M := M_L_simplify) dL_simplify_6 rfl ?_
  refine y_callVHX (M := M_L_simplify) (M' := M_X11_simplify) (i9 := 5) (nx := 17) rfl dL_simplify_7 m_X11_simplify t_2187 t_2188 t_2189 o2757 rfl (q2756 hl c0 c1 c2 c3 o2757 o2758) rfl rfl (Nat.le_of_ble_eq_true rfl) (Nat.le_of_ble_eq_true rfl) (Nat.le_of_ble_eq_true rfl) (Nat.le_of_ble_eq_true rfl) (en_hdm (k0 := 5) [] [(0, 12, 19, 13), (0, 12, 23, 19)] rfl (fun _ h => nomatch h) (by decide +kernel) (by decide) t_739 n_750 dL_simplify_15) (by decide) rfl (fun h2759 f2760 w2761 => ?_)
  refine x_iconst (M := M_L_simplify) dL_simplify_17 ?_
  exact x_iret (M := M_L_simplify) dL_simplify_18 rfl ⟨rfl, (fr_tr f2760 (fun _ h => nomatch h) fr_rf), trivial⟩ (Nat.le_of_ble_eq_true rfl) (Nat.le_of_ble_eq_true rfl)
set_option maxRecDepth 10000 in
theorem q2776 {l : Launch} {E : EE} (hl : l.stackTraces = false) {h : HP} {a0 : Int32} {a1 : Int32} {a2 : Int32} {dg : Int32} (c0 : ¬ (a0.toInt < 0)) (c1 : a0.toInt < 32) (c2 : ¬ (a1.toInt < 0)) (c3 : ¬ (a1.toInt < 32)) (o2768 : ob h 277 = some (.inr (15, (RB dg)))) : en_C l E M_X12_simplify 1 0 0 [.ref 277, .int a0, .int a1, .int a2] h (pF (some (.int (Int32.ofInt 0))) [277] h (fun h' => ob h' 277 = some (.inr (15, ((RB dg).set 0 (.int (Int32.ofInt 1))))) ∧ True)) := by
  refine en_mk m_X12_simplify rfl hl (Nat.le_of_ble_eq_true rfl) ?_
  refine x_aload_n (M := M_X12_simplify) dX12_simplify_0 rfl ?_
  refine x_iconst (M := M_X12_simplify) dX12_simplify_1 ?_
  refine y_put (M := M_X12_simplify) (ci := 15) (C := RX12) (T := TX12) (N := 135) (ty := tyX12) cl15 dX12_simplify_2 o2768 0 (by decide) t_2391 (Or.inl rfl) (Nat.le_of_ble_eq_true rfl) rfl (fun h2769 w2770 f2771 => ?_)
  refine x_aload_n (M := M_X12_simplify) dX12_simplify_5 rfl ?_
  refine x_iload_n (M := M_X12_simplify) dX12_simplify_6 rfl ?_
  refine x_callSR (M := M_X12_simplify) (M' := M_X12_isSlot) rfl rfl dX12_simplify_7 m_X12_isSlot t_2841 t_2842 (q447 hl c0 c1) rfl rfl (Nat.le_of_ble_eq_true rfl) (Nat.le_of_ble_eq_true rfl) (Nat.le_of_ble_eq_true rfl) (Nat.le_of_ble_eq_true rfl) ?_
  refine x_if_eq (M := M_X12_simplify) (tgt := 20) dX12_simplify_10 (by decide) (fun q => absurd q (by decide +kernel)) (fun _ => ?_)
  refine x_iload_n (M := M_X12_simplify) dX12_simplify_13 rfl ?_
  refine x_callSR (M := M_X12_simplify) (M' := M_X12_isSlot) rfl rfl dX12_simplify_14 m_X12_isSlot t_2841 t_2842 (q1580 hl c2 c3) rfl rfl (Nat.le_of_ble_eq_true rfl) (Nat.le_of_ble_eq_true rfl) (Nat.le_of_ble_eq_true rfl) (Nat.le_of_ble_eq_true rfl) ?_
  refine x_if_ne (M := M_X12_simplify) (tgt := 24) dX12_simplify_17 (by decide) (fun q => absurd q (by decide +kernel)) (fun _ => ?_)
  refine x_iconst (M := M_X12_simplify) dX12_simplify_20 ?_
  refine x_goto (M := M_X12_simplify) (tgt := 25) dX12_simplify_21 (by decide) ?_
  refine x_iconst (M := M_X12_simplify) dX12_simplify_25 ?_
  refine y_callVR (M := M_X12_simplify) (M' := M_X12_fails) rfl rfl dX12_simplify_26 m_X12_fails t_2805 t_2807 s_157 (q22 hl w2770) rfl rfl w2770 rfl (Nat.le_of_ble_eq_true rfl) (Nat.le_of_ble_eq_true rfl) (Nat.le_of_ble_eq_true rfl) (Nat.le_of_ble_eq_true rfl) (fun h2772 f2773 w2774 => ?_)
  obtain ⟨o2775, -⟩ := w2774
  refine x_if_ne (M := M_X12_simplify) (tgt := 78) dX12_simplify_29 (by decide) (fun _ => ?_) (fun q => absurd q (by decide +kernel))
  refine x_iconst (M := M_X12_simplify) dX12_simplify_78 ?_
  exact x_iret (M := M_X12_simplify) dX12_simplify_79 rfl ⟨rfl, (fr_tr f2773 (by decide) (fr_tr f2771 (by decide) fr_rf)), ⟨o2775, trivial⟩⟩ (Nat.le_of_ble_eq_true rfl) (Nat.le_of_ble_eq_true rfl)
set_option maxRecDepth 10000 in
theorem lc20_3 {l : Launch} {E : EE} (hl : l.stackTraces = false) (nm : String) {xs : Nat → Int32} (hx : E.2.2.2.2 0 = some (7, xs)) {h : HP} {a0 : Int32} {a1 : Int32} {a2 : Int32} {dg : Int32} (e2 : xs 2 = a0) (e3 : xs 3 = a1) (e4 : xs 4 = a2) (c0 : ¬ (a0.toInt < 0)) (c1 : a0.toInt < 32) (c2 : ¬ (a1.toInt < 0)) (c3 : ¬ (a1.toInt < 32)) (o2763 : ob h 32 = some (.inr (14, [.ref 33, .ref 162, .ref 166, .int (0 : Int32), .int (0 : Int32), .int (0 : Int32), .ref 167, .ref 170, .ref 173, .ref 177, .ref 193, .ref 208, .ref 222, .ref 238, .ref 252, .ref 274, .ref 275, .ref 276, .int (0 : Int32)]))) (o2764 : ob h 33 = some (.inl (4, 32, .inr (.inr (.inr (.inr (shf 1 32))))))) (o2777 : ob h 277 = some (.inr (15, (RB dg)))) : XX l E (M_law nm) 1312 342628 8074320 (fun o _ => o = .inl (some (.int 1))) 1494 [some (.ref 0), some (.ref 32), some (.ref 277), some (.ref 359), some (.int (Int32.ofInt 1)), none, none, none] [] h 328 2463747 := by
  refine x_aload_n (M := (M_law nm)) dL_law_1494 rfl ?_
  refine x_aload_n (M := (M_law nm)) dL_law_1495 rfl ?_
  refine x_iload (M := (M_law nm)) dL_law_1496 rfl ?_
  refine x_iconst (M := (M_law nm)) dL_law_1498 ?_
  refine x_iadd (M := (M_law nm)) dL_law_1499 ?_
  refine x_sald (M := (M_law nm)) dL_law_1500 (by decide) hx (vp_inD (by decide +kernel)) ?_
  refine x_top (M := (M_law nm)) (y := a0) ((congrArg xs (by decide +kernel : ((Int32.ofInt 1) + (Int32.ofInt 1)).toNatClampNeg = 2)).trans e2) ?_
  refine x_aload_n (M := (M_law nm)) dL_law_1501 rfl ?_
  refine x_iload (M := (M_law nm)) dL_law_1502 rfl ?_
  refine x_iconst (M := (M_law nm)) dL_law_1504 ?_
  refine x_iadd (M := (M_law nm)) dL_law_1505 ?_
  refine x_sald (M := (M_law nm)) dL_law_1506 (by decide) hx (vp_inD (by decide +kernel)) ?_
  refine x_top (M := (M_law nm)) (y := a1) ((congrArg xs (by decide +kernel : ((Int32.ofInt 1) + (Int32.ofInt 2)).toNatClampNeg = 3)).trans e3) ?_
  refine x_aload_n (M := (M_law nm)) dL_law_1507 rfl ?_
  refine x_iload (M := (M_law nm)) dL_law_1508 rfl ?_
  refine x_iconst (M := (M_law nm)) dL_law_1510 ?_
  refine x_iadd (M := (M_law nm)) dL_law_1511 ?_
  refine x_sald (M := (M_law nm)) dL_law_1512 (by decide) hx (vp_inD (by decide +kernel)) ?_
  refine x_top (M := (M_law nm)) (y := a2) ((congrArg xs (by decide +kernel : ((Int32.ofInt 1) + (Int32.ofInt 3)).toNatClampNeg = 4)).trans e4) ?_
  refine x_aload_n (M := (M_law nm)) dL_law_1513 rfl ?_
  refine y_callSW (M := (M_law nm)) (M' := M_L_simplify) rfl rfl dL_law_1514 m_L_simplify t_2184 t_2185 (q2762 hl c0 c1 c2 c3 o2763 o2764) rfl rfl (Nat.le_of_ble_eq_true rfl) (Nat.le_of_ble_eq_true rfl) (Nat.le_of_ble_eq_true rfl) (Nat.le_of_ble_eq_true rfl) (fun h2765 f2766 w2767 => ?_)
  refine x_istore (M := (M_law nm)) dL_law_1517 (Nat.le_of_ble_eq_true rfl) rfl ?_
  refine x_aload_n (M := (M_law nm)) dL_law_1519 rfl ?_
  refine x_aload_n (M := (M_law nm)) dL_law_1520 rfl ?_
  refine x_iload (M := (M_law nm)) dL_law_1521 rfl ?_
  refine x_iconst (M := (M_law nm)) dL_law_1523 ?_
  refine x_iadd (M := (M_law nm)) dL_law_1524 ?_
  refine x_sald (M := (M_law nm)) dL_law_1525 (by decide) hx (vp_inD (by decide +kernel)) ?_
  refine x_top (M := (M_law nm)) (y := a0) ((congrArg xs (by decide +kernel : ((Int32.ofInt 1) + (Int32.ofInt 1)).toNatClampNeg = 2)).trans e2) ?_
  refine x_aload_n (M := (M_law nm)) dL_law_1526 rfl ?_
  refine x_iload (M := (M_law nm)) dL_law_1527 rfl ?_
  refine x_iconst (M := (M_law nm)) dL_law_1529 ?_
  refine x_iadd (M := (M_law nm)) dL_law_1530 ?_
  refine x_sald (M := (M_law nm)) dL_law_1531 (by decide) hx (vp_inD (by decide +kernel)) ?_
  refine x_top (M := (M_law nm)) (y := a1) ((congrArg xs (by decide +kernel : ((Int32.ofInt 1) + (Int32.ofInt 2)).toNatClampNeg = 3)).trans e3) ?_
  refine x_aload_n (M := (M_law nm)) dL_law_1532 rfl ?_
  refine x_iload (M := (M_law nm)) dL_law_1533 rfl ?_
  refine x_iconst (M := (M_law nm)) dL_law_1535 ?_
  refine x_iadd (M := (M_law nm)) dL_law_1536 ?_
  refine x_sald (M := (M_law nm)) dL_law_1537 (by decide) hx (vp_inD (by decide +kernel)) ?_
  refine x_top (M := (M_law nm)) (y := a2) ((congrArg xs (by decide +kernel : ((Int32.ofInt 1) + (Int32.ofInt 3)).toNatClampNeg = 4)).trans e4) ?_
  have o2778 := (f2766 277 _ (by decide) o2777)
  refine y_callVR (M := (M_law nm)) (M' := M_X12_simplify) rfl rfl dL_law_1538 m_X12_simplify t_3685 t_3686 t_3687 (q2776 hl c0 c1 c2 c3 o2778) rfl rfl o2778 rfl (Nat.le_of_ble_eq_true rfl) (Nat.le_of_ble_eq_true rfl) (Nat.le_of_ble_eq_true rfl) (Nat.le_of_ble_eq_true rfl) (fun h2779 f2780 w2781 => ?_)
  obtain ⟨o2782, -⟩ := w2781
  refine x_istore (M := (M_law nm)) dL_law_1541 (Nat.le_of_ble_eq_true rfl) rfl ?_
  refine x_aload_n (M := (M_law nm)) dL_law_1543 rfl ?_
  refine x_callVR (M := (M_law nm)) (M' := M_X12_thrown) rfl rfl dL_law_1544 m_X12_thrown t_2797 t_2798 t_2799 (q35 hl o2782) rfl rfl o2782 rfl (Nat.le_of_ble_eq_true rfl) (Nat.le_of_ble_eq_true rfl) (Nat.le_of_ble_eq_true rfl) (Nat.le_of_ble_eq_true rfl) ?_
  refine x_iload (M := (M_law nm)) dL_law_1547 rfl ?_
  refine x_icmp_eq (M := (M_law nm)) (tgt := 1554) dL_law_1549 (by decide) (fun _ => ?_) (fun q => absurd q (by decide +kernel))
  refine x_iload (M := (M_law nm)) dL_law_1554 rfl ?_
  refine x_if_ne (M := (M_law nm)) (tgt := 1571) dL_law_1556 (by decide) (fun _ => ?_) (fun q => absurd q (by decide +kernel))
  refine x_goto (M := (M_law nm)) (tgt := 2449) dL_law_1571 (by decide) ?_
  refine x_iinc (M := (M_law nm)) dL_law_2449 rfl (Nat.le_of_ble_eq_true rfl) rfl ?_
  refine x_lvs (M := (M_law nm)) (lv' := [some (.ref 0), some (.ref 32), some (.ref 277), some (.ref 359), some (.int (Int32.ofInt 7)), some (.int (Int32.ofInt 1)), some (.int (Int32.ofInt 0)), none]) (by rw [(by decide +kernel : (Int32.ofInt 1) + Int32.ofInt 6 = (Int32.ofInt 7))] <;> rfl) ?_
  refine x_goto (M := (M_law nm)) (tgt := 33) dL_law_2452 (by decide) ?_
  refine x_iload (M := (M_law nm)) dL_law_33 rfl ?_
  refine x_aload_n (M := (M_law nm)) dL_law_35 rfl ?_
  refine x_slen (M := (M_law nm)) dL_law_36 (by decide) hx ?_
  refine x_bipush (M := (M_law nm)) dL_law_37 ?_
  refine x_isub (M := (M_law nm)) dL_law_39 ?_
  refine x_icmp_gt (M := (M_law nm)) (tgt := 2455) dL_law_40 (by decide) (fun _ => ?_) (fun q => absurd q (by decide +kernel))
  refine x_iconst (M := (M_law nm)) dL_law_2455 ?_
  exact x_zret (M := (M_law nm)) dL_law_2456 rfl (by decide) rfl (Nat.le_of_ble_eq_true rfl) (Nat.le_of_ble_eq_true rfl)
set_option maxRecDepth 10000 in
theorem q2787 {l : Launch} {E : EE} (hl : l.stackTraces = false) {h : HP} {a0 : Int32} {a1 : Int32} {a2 : Int32} (c0 : ¬ (a0.toInt < 0)) (c1 : ¬ (a0.toInt < 32)) (o2783 : ob h 32 = some (.inr (14, [.ref 33, .ref 162, .ref 166, .int (0 : Int32), .int (0 : Int32), .int (0 : Int32), .ref 167, .ref 170, .ref 173, .ref 177, .ref 193, .ref 208, .ref 222, .ref 238, .ref 252, .ref 274, .ref 275, .ref 276, .int (0 : Int32)]))) : en_C l E M_X11_simplify 7 1 6 [.ref 32, .int a0, .int a1, .int a2] h (pT "java/lang/IndexOutOfBoundsException" [] h (fun _ => True)) := by
  refine en_mk m_X11_simplify rfl hl (Nat.le_of_ble_eq_true rfl) ?_
  refine x_aload_n (M := M_X11_simplify) dX11_simplify_0 rfl ?_
  refine x_iload_n (M := M_X11_simplify) dX11_simplify_1 rfl ?_
  exact y_callVX (M := M_X11_simplify) (M' := M_X11_slotNumbered) rfl rfl dX11_simplify_2 m_X11_slotNumbered t_744 t_746 s_2 (q511 hl c0 c1) rfl rfl o2783 rfl (Nat.le_of_ble_eq_true rfl) (Nat.le_of_ble_eq_true rfl) (Nat.le_of_ble_eq_true rfl) (Nat.le_of_ble_eq_true rfl) (fun h2784 f2785 w2786 => ⟨rfl, (fr_tr f2785 (fun _ h => nomatch h) fr_rf), trivial⟩)
set_option maxRecDepth 10000 in
theorem q2792 {l : Launch} {E : EE} (hl : l.stackTraces = false) {h : HP} {a0 : Int32} {a1 : Int32} {a2 : Int32} (c0 : ¬ (a0.toInt < 0)) (c1 : ¬ (a0.toInt < 32)) (o2788 : ob h 32 = some (.inr (14, [.ref 33, .ref 162, .ref 166, .int (0 : Int32), .int (0 : Int32), .int (0 : Int32), .ref 167, .ref 170, .ref 173, .ref 177, .ref 193, .ref 208, .ref 222, .ref 238, .ref 252, .ref 274, .ref 275, .ref 276, .int (0 : Int32)]))) : en_C l E M_L_simplify 8 1 6 [.ref 32, .int a0, .int a1, .int a2, .ref 359] h (pF (some (.int (Int32.ofInt 1))) [] h (fun _ => True)) := by
  refine en_mkW m_L_simplify rfl hl (Nat.le_of_ble_eq_true rfl) ?_
  refine x_aload (M := M_L_simplify) dL_simplify_0 rfl ?_
  refine x_iconst (M := M_L_simplify) dL_simplify_2 ?_
  refine x_aload_n (M := M_L_simplify) dL_simplify_3 rfl ?_
  refine x_iload_n (M := M_L_simplify) dL_simplify_4 rfl ?_
  refine x_iload_n (M := M_L_simplify) dL_simplify_5 rfl ?_
  refine x_iload_n (M := M_L_simplify) dL_simplify_6 rfl ?_
  refine y_callVHX (M := M_L_simplify) (M' := M_X11_simplify) (i9 := 5) (nx := 17) rfl dL_simplify_7 m_X11_simplify t_2187 t_2188 t_2189 o2788 rfl (q2787 hl c0 c1 o2788) rfl rfl (Nat.le_of_ble_eq_true rfl) (Nat.le_of_ble_eq_true rfl) (Nat.le_of_ble_eq_true rfl) (Nat.le_of_ble_eq_true rfl) (en_hdm (k0 := 5) [] [(0, 12, 19, 13), (0, 12, 23, 19)] rfl (fun _ h => nomatch h) (by decide +kernel) (by decide) t_739 n_750 dL_simplify_15) (by decide) rfl (fun h2789 f2790 w2791 => ?_)
  refine x_iconst (M := M_L_simplify) dL_simplify_17 ?_
  exact x_iret (M := M_L_simplify) dL_simplify_18 rfl ⟨rfl, (fr_tr f2790 (fun _ h => nomatch h) fr_rf), trivial⟩ (Nat.le_of_ble_eq_true rfl) (Nat.le_of_ble_eq_true rfl)
set_option maxRecDepth 10000 in
theorem q2805 {l : Launch} {E : EE} (hl : l.stackTraces = false) {h : HP} {a0 : Int32} {a1 : Int32} {a2 : Int32} {dg : Int32} (c0 : ¬ (a0.toInt < 0)) (c1 : ¬ (a0.toInt < 32)) (o2797 : ob h 277 = some (.inr (15, (RB dg)))) : en_C l E M_X12_simplify 1 0 0 [.ref 277, .int a0, .int a1, .int a2] h (pF (some (.int (Int32.ofInt 0))) [277] h (fun h' => ob h' 277 = some (.inr (15, ((RB dg).set 0 (.int (Int32.ofInt 1))))) ∧ True)) := by
  refine en_mk m_X12_simplify rfl hl (Nat.le_of_ble_eq_true rfl) ?_
  refine x_aload_n (M := M_X12_simplify) dX12_simplify_0 rfl ?_
  refine x_iconst (M := M_X12_simplify) dX12_simplify_1 ?_
  refine y_put (M := M_X12_simplify) (ci := 15) (C := RX12) (T := TX12) (N := 135) (ty := tyX12) cl15 dX12_simplify_2 o2797 0 (by decide) t_2391 (Or.inl rfl) (Nat.le_of_ble_eq_true rfl) rfl (fun h2798 w2799 f2800 => ?_)
  refine x_aload_n (M := M_X12_simplify) dX12_simplify_5 rfl ?_
  refine x_iload_n (M := M_X12_simplify) dX12_simplify_6 rfl ?_
  refine x_callSR (M := M_X12_simplify) (M' := M_X12_isSlot) rfl rfl dX12_simplify_7 m_X12_isSlot t_2841 t_2842 (q530 hl c0 c1) rfl rfl (Nat.le_of_ble_eq_true rfl) (Nat.le_of_ble_eq_true rfl) (Nat.le_of_ble_eq_true rfl) (Nat.le_of_ble_eq_true rfl) ?_
  refine x_if_eq (M := M_X12_simplify) (tgt := 20) dX12_simplify_10 (by decide) (fun _ => ?_) (fun q => absurd q (by decide +kernel))
  refine x_iconst (M := M_X12_simplify) dX12_simplify_20 ?_
  refine x_goto (M := M_X12_simplify) (tgt := 25) dX12_simplify_21 (by decide) ?_
  refine x_iconst (M := M_X12_simplify) dX12_simplify_25 ?_
  refine y_callVR (M := M_X12_simplify) (M' := M_X12_fails) rfl rfl dX12_simplify_26 m_X12_fails t_2805 t_2807 s_157 (q22 hl w2799) rfl rfl w2799 rfl (Nat.le_of_ble_eq_true rfl) (Nat.le_of_ble_eq_true rfl) (Nat.le_of_ble_eq_true rfl) (Nat.le_of_ble_eq_true rfl) (fun h2801 f2802 w2803 => ?_)
  obtain ⟨o2804, -⟩ := w2803
  refine x_if_ne (M := M_X12_simplify) (tgt := 78) dX12_simplify_29 (by decide) (fun _ => ?_) (fun q => absurd q (by decide +kernel))
  refine x_iconst (M := M_X12_simplify) dX12_simplify_78 ?_
  exact x_iret (M := M_X12_simplify) dX12_simplify_79 rfl ⟨rfl, (fr_tr f2802 (by decide) (fr_tr f2800 (by decide) fr_rf)), ⟨o2804, trivial⟩⟩ (Nat.le_of_ble_eq_true rfl) (Nat.le_of_ble_eq_true rfl)
set_option maxRecDepth 10000 in
theorem lc20_4 {l : Launch} {E : EE} (hl : l.stackTraces = false) (nm : String) {xs : Nat → Int32} (hx : E.2.2.2.2 0 = some (7, xs)) {h : HP} {a0 : Int32} {a1 : Int32} {a2 : Int32} {dg : Int32} (e2 : xs 2 = a0) (e3 : xs 3 = a1) (e4 : xs 4 = a2) (c0 : ¬ (a0.toInt < 0)) (c1 : ¬ (a0.toInt < 32)) (o2793 : ob h 32 = some (.inr (14, [.ref 33, .ref 162, .ref 166, .int (0 : Int32), .int (0 : Int32), .int (0 : Int32), .ref 167, .ref 170, .ref 173, .ref 177, .ref 193, .ref 208, .ref 222, .ref 238, .ref 252, .ref 274, .ref 275, .ref 276, .int (0 : Int32)]))) (o2806 : ob h 277 = some (.inr (15, (RB dg)))) : XX l E (M_law nm) 1312 342628 8074320 (fun o _ => o = .inl (some (.int 1))) 1494 [some (.ref 0), some (.ref 32), some (.ref 277), some (.ref 359), some (.int (Int32.ofInt 1)), none, none, none] [] h 328 2463747 := by
  refine x_aload_n (M := (M_law nm)) dL_law_1494 rfl ?_
  refine x_aload_n (M := (M_law nm)) dL_law_1495 rfl ?_
  refine x_iload (M := (M_law nm)) dL_law_1496 rfl ?_
  refine x_iconst (M := (M_law nm)) dL_law_1498 ?_
  refine x_iadd (M := (M_law nm)) dL_law_1499 ?_
  refine x_sald (M := (M_law nm)) dL_law_1500 (by decide) hx (vp_inD (by decide +kernel)) ?_
  refine x_top (M := (M_law nm)) (y := a0) ((congrArg xs (by decide +kernel : ((Int32.ofInt 1) + (Int32.ofInt 1)).toNatClampNeg = 2)).trans e2) ?_
  refine x_aload_n (M := (M_law nm)) dL_law_1501 rfl ?_
  refine x_iload (M := (M_law nm)) dL_law_1502 rfl ?_
  refine x_iconst (M := (M_law nm)) dL_law_1504 ?_
  refine x_iadd (M := (M_law nm)) dL_law_1505 ?_
  refine x_sald (M := (M_law nm)) dL_law_1506 (by decide) hx (vp_inD (by decide +kernel)) ?_
  refine x_top (M := (M_law nm)) (y := a1) ((congrArg xs (by decide +kernel : ((Int32.ofInt 1) + (Int32.ofInt 2)).toNatClampNeg = 3)).trans e3) ?_
  refine x_aload_n (M := (M_law nm)) dL_law_1507 rfl ?_
  refine x_iload (M := (M_law nm)) dL_law_1508 rfl ?_
  refine x_iconst (M := (M_law nm)) dL_law_1510 ?_
  refine x_iadd (M := (M_law nm)) dL_law_1511 ?_
  refine x_sald (M := (M_law nm)) dL_law_1512 (by decide) hx (vp_inD (by decide +kernel)) ?_
  refine x_top (M := (M_law nm)) (y := a2) ((congrArg xs (by decide +kernel : ((Int32.ofInt 1) + (Int32.ofInt 3)).toNatClampNeg = 4)).trans e4) ?_
  refine x_aload_n (M := (M_law nm)) dL_law_1513 rfl ?_
  refine y_callSW (M := (M_law nm)) (M' := M_L_simplify) rfl rfl dL_law_1514 m_L_simplify t_2184 t_2185 (q2792 hl c0 c1 o2793) rfl rfl (Nat.le_of_ble_eq_true rfl) (Nat.le_of_ble_eq_true rfl) (Nat.le_of_ble_eq_true rfl) (Nat.le_of_ble_eq_true rfl) (fun h2794 f2795 w2796 => ?_)
  refine x_istore (M := (M_law nm)) dL_law_1517 (Nat.le_of_ble_eq_true rfl) rfl ?_
  refine x_aload_n (M := (M_law nm)) dL_law_1519 rfl ?_
  refine x_aload_n (M := (M_law nm)) dL_law_1520 rfl ?_
  refine x_iload (M := (M_law nm)) dL_law_1521 rfl ?_
  refine x_iconst (M := (M_law nm)) dL_law_1523 ?_
  refine x_iadd (M := (M_law nm)) dL_law_1524 ?_
  refine x_sald (M := (M_law nm)) dL_law_1525 (by decide) hx (vp_inD (by decide +kernel)) ?_
  refine x_top (M := (M_law nm)) (y := a0) ((congrArg xs (by decide +kernel : ((Int32.ofInt 1) + (Int32.ofInt 1)).toNatClampNeg = 2)).trans e2) ?_
  refine x_aload_n (M := (M_law nm)) dL_law_1526 rfl ?_
  refine x_iload (M := (M_law nm)) dL_law_1527 rfl ?_
  refine x_iconst (M := (M_law nm)) dL_law_1529 ?_
  refine x_iadd (M := (M_law nm)) dL_law_1530 ?_
  refine x_sald (M := (M_law nm)) dL_law_1531 (by decide) hx (vp_inD (by decide +kernel)) ?_
  refine x_top (M := (M_law nm)) (y := a1) ((congrArg xs (by decide +kernel : ((Int32.ofInt 1) + (Int32.ofInt 2)).toNatClampNeg = 3)).trans e3) ?_
  refine x_aload_n (M := (M_law nm)) dL_law_1532 rfl ?_
  refine x_iload (M := (M_law nm)) dL_law_1533 rfl ?_
  refine x_iconst (M := (M_law nm)) dL_law_1535 ?_
  refine x_iadd (M := (M_law nm)) dL_law_1536 ?_
  refine x_sald (M := (M_law nm)) dL_law_1537 (by decide) hx (vp_inD (by decide +kernel)) ?_
  refine x_top (M := (M_law nm)) (y := a2) ((congrArg xs (by decide +kernel : ((Int32.ofInt 1) + (Int32.ofInt 3)).toNatClampNeg = 4)).trans e4) ?_
  have o2807 := (f2795 277 _ (by decide) o2806)
  refine y_callVR (M := (M_law nm)) (M' := M_X12_simplify) rfl rfl dL_law_1538 m_X12_simplify t_3685 t_3686 t_3687 (q2805 hl c0 c1 o2807) rfl rfl o2807 rfl (Nat.le_of_ble_eq_true rfl) (Nat.le_of_ble_eq_true rfl) (Nat.le_of_ble_eq_true rfl) (Nat.le_of_ble_eq_true rfl) (fun h2808 f2809 w2810 => ?_)
  obtain ⟨o2811, -⟩ := w2810
  refine x_istore (M := (M_law nm)) dL_law_1541 (Nat.le_of_ble_eq_true rfl) rfl ?_
  refine x_aload_n (M := (M_law nm)) dL_law_1543 rfl ?_
  refine x_callVR (M := (M_law nm)) (M' := M_X12_thrown) rfl rfl dL_law_1544 m_X12_thrown t_2797 t_2798 t_2799 (q35 hl o2811) rfl rfl o2811 rfl (Nat.le_of_ble_eq_true rfl) (Nat.le_of_ble_eq_true rfl) (Nat.le_of_ble_eq_true rfl) (Nat.le_of_ble_eq_true rfl) ?_
  refine x_iload (M := (M_law nm)) dL_law_1547 rfl ?_
  refine x_icmp_eq (M := (M_law nm)) (tgt := 1554) dL_law_1549 (by decide) (fun _ => ?_) (fun q => absurd q (by decide +kernel))
  refine x_iload (M := (M_law nm)) dL_law_1554 rfl ?_
  refine x_if_ne (M := (M_law nm)) (tgt := 1571) dL_law_1556 (by decide) (fun _ => ?_) (fun q => absurd q (by decide +kernel))
  refine x_goto (M := (M_law nm)) (tgt := 2449) dL_law_1571 (by decide) ?_
  refine x_iinc (M := (M_law nm)) dL_law_2449 rfl (Nat.le_of_ble_eq_true rfl) rfl ?_
  refine x_lvs (M := (M_law nm)) (lv' := [some (.ref 0), some (.ref 32), some (.ref 277), some (.ref 359), some (.int (Int32.ofInt 7)), some (.int (Int32.ofInt 1)), some (.int (Int32.ofInt 0)), none]) (by rw [(by decide +kernel : (Int32.ofInt 1) + Int32.ofInt 6 = (Int32.ofInt 7))] <;> rfl) ?_
  refine x_goto (M := (M_law nm)) (tgt := 33) dL_law_2452 (by decide) ?_
  refine x_iload (M := (M_law nm)) dL_law_33 rfl ?_
  refine x_aload_n (M := (M_law nm)) dL_law_35 rfl ?_
  refine x_slen (M := (M_law nm)) dL_law_36 (by decide) hx ?_
  refine x_bipush (M := (M_law nm)) dL_law_37 ?_
  refine x_isub (M := (M_law nm)) dL_law_39 ?_
  refine x_icmp_gt (M := (M_law nm)) (tgt := 2455) dL_law_40 (by decide) (fun _ => ?_) (fun q => absurd q (by decide +kernel))
  refine x_iconst (M := (M_law nm)) dL_law_2455 ?_
  exact x_zret (M := (M_law nm)) dL_law_2456 rfl (by decide) rfl (Nat.le_of_ble_eq_true rfl) (Nat.le_of_ble_eq_true rfl)
theorem lop20 {l : Launch} {E : EE} (hl : l.stackTraces = false) (nm : String) {xs : Nat → Int32} (hx : E.2.2.2.2 0 = some (7, xs)) (dg : Int32) : XX l E (M_law nm) 1312 342628 8074320 (fun o _ => o = .inl (some (.int 1))) 1494 [some (.ref 0), some (.ref 32), some (.ref 277), some (.ref 359), some (.int (Int32.ofInt 1)), none, none, none] [] (HH dg) 328 2463747 := by
  obtain ⟨a0, e2⟩ : ∃ a : Int32, xs 2 = a := ⟨_, rfl⟩
  obtain ⟨a1, e3⟩ : ∃ a : Int32, xs 3 = a := ⟨_, rfl⟩
  obtain ⟨a2, e4⟩ : ∃ a : Int32, xs 4 = a := ⟨_, rfl⟩
  obtain ⟨a3, e5⟩ : ∃ a : Int32, xs 5 = a := ⟨_, rfl⟩
  obtain ⟨a4, e6⟩ : ∃ a : Int32, xs 6 = a := ⟨_, rfl⟩
  by_cases c0 : a0.toInt < 0
  · exact lc20_0 hl nm hx e2 e3 e4 c0 (o_32 dg) (o_277b dg)
  · by_cases c1 : a0.toInt < 32
    · by_cases c2 : a1.toInt < 0
      · exact lc20_1 hl nm hx e2 e3 e4 c0 c1 c2 (o_32 dg) (o_33 dg) (o_277b dg)
      · by_cases c3 : a1.toInt < 32
        · have n_a0 : a0.toNatClampNeg < 32 := nc_lt (by omega) (by decide)
          exact lc20_2 hl nm hx e2 e3 e4 c0 c1 c2 c3 (o_32 dg) (o_33 dg) (o_sh dg a0.toNatClampNeg n_a0) (o_277b dg) (oMR (dg := dg) (k := 2) rfl)
        · exact lc20_3 hl nm hx e2 e3 e4 c0 c1 c2 c3 (o_32 dg) (o_33 dg) (o_277b dg)
    · exact lc20_4 hl nm hx e2 e3 e4 c0 c1 (o_32 dg) (o_277b dg)
set_option maxRecDepth 10000 in
theorem q2816 {l : Launch} {E : EE} (hl : l.stackTraces = false) {h : HP} {a0 : Int32} {a1 : Int32} {a2 : Int32} {a3 : Int32} (c0 : a1.toInt < 0) (o2812 : ob h 32 = some (.inr (14, [.ref 33, .ref 162, .ref 166, .int (0 : Int32), .int (0 : Int32), .int (0 : Int32), .ref 167, .ref 170, .ref 173, .ref 177, .ref 193, .ref 208, .ref 222, .ref 238, .ref 252, .ref 274, .ref 275, .ref 276, .int (0 : Int32)]))) : en_C l E M_X11_overlay 7 1 6 [.ref 32, .int a0, .int a1, .int a2, .int a3] h (pT "java/lang/IndexOutOfBoundsException" [] h (fun _ => True)) := by
  refine en_mk m_X11_overlay rfl hl (Nat.le_of_ble_eq_true rfl) ?_
  refine x_aload_n (M := M_X11_overlay) dX11_overlay_0 rfl ?_
  refine x_iload_n (M := M_X11_overlay) dX11_overlay_1 rfl ?_
  exact y_callVX (M := M_X11_overlay) (M' := M_X11_slotNumbered) rfl rfl dX11_overlay_2 m_X11_slotNumbered t_744 t_746 s_2 (q1465 hl c0) rfl rfl o2812 rfl (Nat.le_of_ble_eq_true rfl) (Nat.le_of_ble_eq_true rfl) (Nat.le_of_ble_eq_true rfl) (Nat.le_of_ble_eq_true rfl) (fun h2813 f2814 w2815 => ⟨rfl, (fr_tr f2814 (fun _ h => nomatch h) fr_rf), trivial⟩)
set_option maxRecDepth 10000 in
theorem q2821 {l : Launch} {E : EE} (hl : l.stackTraces = false) {h : HP} {a0 : Int32} {a1 : Int32} {a2 : Int32} {a3 : Int32} (c0 : a1.toInt < 0) (o2817 : ob h 32 = some (.inr (14, [.ref 33, .ref 162, .ref 166, .int (0 : Int32), .int (0 : Int32), .int (0 : Int32), .ref 167, .ref 170, .ref 173, .ref 177, .ref 193, .ref 208, .ref 222, .ref 238, .ref 252, .ref 274, .ref 275, .ref 276, .int (0 : Int32)]))) : en_C l E M_L_overlay 8 1 6 [.ref 32, .int a0, .int a1, .int a2, .int a3, .ref 359] h (pF (some (.int (Int32.ofInt 1))) [] h (fun _ => True)) := by
  refine en_mkW m_L_overlay rfl hl (Nat.le_of_ble_eq_true rfl) ?_
  refine x_aload (M := M_L_overlay) dL_overlay_0 rfl ?_
  refine x_iconst (M := M_L_overlay) dL_overlay_2 ?_
  refine x_aload_n (M := M_L_overlay) dL_overlay_3 rfl ?_
  refine x_iload_n (M := M_L_overlay) dL_overlay_4 rfl ?_
  refine x_iload_n (M := M_L_overlay) dL_overlay_5 rfl ?_
  refine x_iload_n (M := M_L_overlay) dL_overlay_6 rfl ?_
  refine x_iload (M := M_L_overlay) dL_overlay_7 rfl ?_
  refine y_callVHX (M := M_L_overlay) (M' := M_X11_overlay) (i9 := 6) (nx := 19) rfl dL_overlay_9 m_X11_overlay t_1373 t_1374 t_1375 o2817 rfl (q2816 hl c0 o2817) rfl rfl (Nat.le_of_ble_eq_true rfl) (Nat.le_of_ble_eq_true rfl) (Nat.le_of_ble_eq_true rfl) (Nat.le_of_ble_eq_true rfl) (en_hdm (k0 := 6) [] [(0, 14, 21, 13), (0, 14, 25, 19), (0, 14, 29, 63)] rfl (fun _ h => nomatch h) (by decide +kernel) (by decide) t_739 n_750 dL_overlay_17) (by decide) rfl (fun h2818 f2819 w2820 => ?_)
  refine x_iconst (M := M_L_overlay) dL_overlay_19 ?_
  exact x_iret (M := M_L_overlay) dL_overlay_20 rfl ⟨rfl, (fr_tr f2819 (fun _ h => nomatch h) fr_rf), trivial⟩ (Nat.le_of_ble_eq_true rfl) (Nat.le_of_ble_eq_true rfl)
set_option maxRecDepth 10000 in
theorem q2834 {l : Launch} {E : EE} (hl : l.stackTraces = false) {h : HP} {a0 : Int32} {a1 : Int32} {a2 : Int32} {a3 : Int32} {dg : Int32} (c0 : a1.toInt < 0) (o2826 : ob h 277 = some (.inr (15, (RB dg)))) : en_C l E M_X12_overlay 1 0 0 [.ref 277, .int a0, .int a1, .int a2, .int a3] h (pF (some (.int (Int32.ofInt 0))) [277] h (fun h' => ob h' 277 = some (.inr (15, ((RB dg).set 0 (.int (Int32.ofInt 1))))) ∧ True)) := by
  refine en_mk m_X12_overlay rfl hl (Nat.le_of_ble_eq_true rfl) ?_
  refine x_aload_n (M := M_X12_overlay) dX12_overlay_0 rfl ?_
  refine x_iconst (M := M_X12_overlay) dX12_overlay_1 ?_
  refine y_put (M := M_X12_overlay) (ci := 15) (C := RX12) (T := TX12) (N := 135) (ty := tyX12) cl15 dX12_overlay_2 o2826 0 (by decide) t_2391 (Or.inl rfl) (Nat.le_of_ble_eq_true rfl) rfl (fun h2827 w2828 f2829 => ?_)
  refine x_aload_n (M := M_X12_overlay) dX12_overlay_5 rfl ?_
  refine x_iload_n (M := M_X12_overlay) dX12_overlay_6 rfl ?_
  refine x_callSR (M := M_X12_overlay) (M' := M_X12_isSlot) rfl rfl dX12_overlay_7 m_X12_isSlot t_2841 t_2842 (q1485 hl c0) rfl rfl (Nat.le_of_ble_eq_true rfl) (Nat.le_of_ble_eq_true rfl) (Nat.le_of_ble_eq_true rfl) (Nat.le_of_ble_eq_true rfl) ?_
  refine x_if_eq (M := M_X12_overlay) (tgt := 28) dX12_overlay_10 (by decide) (fun _ => ?_) (fun q => absurd q (by decide +kernel))
  refine x_iconst (M := M_X12_overlay) dX12_overlay_28 ?_
  refine x_goto (M := M_X12_overlay) (tgt := 33) dX12_overlay_29 (by decide) ?_
  refine x_iconst (M := M_X12_overlay) dX12_overlay_33 ?_
  refine y_callVR (M := M_X12_overlay) (M' := M_X12_fails) rfl rfl dX12_overlay_34 m_X12_fails t_2805 t_2807 s_157 (q22 hl w2828) rfl rfl w2828 rfl (Nat.le_of_ble_eq_true rfl) (Nat.le_of_ble_eq_true rfl) (Nat.le_of_ble_eq_true rfl) (Nat.le_of_ble_eq_true rfl) (fun h2830 f2831 w2832 => ?_)
  obtain ⟨o2833, -⟩ := w2832
  refine x_if_ne (M := M_X12_overlay) (tgt := 69) dX12_overlay_37 (by decide) (fun _ => ?_) (fun q => absurd q (by decide +kernel))
  refine x_iconst (M := M_X12_overlay) dX12_overlay_69 ?_
  exact x_iret (M := M_X12_overlay) dX12_overlay_70 rfl ⟨rfl, (fr_tr f2831 (by decide) (fr_tr f2829 (by decide) fr_rf)), ⟨o2833, trivial⟩⟩ (Nat.le_of_ble_eq_true rfl) (Nat.le_of_ble_eq_true rfl)
set_option maxRecDepth 10000 in
theorem lc14_0 {l : Launch} {E : EE} (hl : l.stackTraces = false) (nm : String) {xs : Nat → Int32} (hx : E.2.2.2.2 0 = some (7, xs)) {h : HP} {a0 : Int32} {a1 : Int32} {a2 : Int32} {a3 : Int32} {dg : Int32} (e2 : xs 2 = a0) (e3 : xs 3 = a1) (e4 : xs 4 = a2) (e5 : xs 5 = a3) (c0 : a1.toInt < 0) (o2822 : ob h 32 = some (.inr (14, [.ref 33, .ref 162, .ref 166, .int (0 : Int32), .int (0 : Int32), .int (0 : Int32), .ref 167, .ref 170, .ref 173, .ref 177, .ref 193, .ref 208, .ref 222, .ref 238, .ref 252, .ref 274, .ref 275, .ref 276, .int (0 : Int32)]))) (o2835 : ob h 277 = some (.inr (15, (RB dg)))) : XX l E (M_law nm) 1312 342628 8074320 (fun o _ => o = .inl (some (.int 1))) 1031 [some (.ref 0), some (.ref 32), some (.ref 277), some (.ref 359), some (.int (Int32.ofInt 1)), none, none, none] [] h 328 2463747 := by
  refine x_aload_n (M := (M_law nm)) dL_law_1031 rfl ?_
  refine x_aload_n (M := (M_law nm)) dL_law_1032 rfl ?_
  refine x_iload (M := (M_law nm)) dL_law_1033 rfl ?_
  refine x_iconst (M := (M_law nm)) dL_law_1035 ?_
  refine x_iadd (M := (M_law nm)) dL_law_1036 ?_
  refine x_sald (M := (M_law nm)) dL_law_1037 (by decide) hx (vp_inD (by decide +kernel)) ?_
  refine x_top (M := (M_law nm)) (y := a0) ((congrArg xs (by decide +kernel : ((Int32.ofInt 1) + (Int32.ofInt 1)).toNatClampNeg = 2)).trans e2) ?_
  refine x_aload_n (M := (M_law nm)) dL_law_1038 rfl ?_
  refine x_iload (M := (M_law nm)) dL_law_1039 rfl ?_
  refine x_iconst (M := (M_law nm)) dL_law_1041 ?_
  refine x_iadd (M := (M_law nm)) dL_law_1042 ?_
  refine x_sald (M := (M_law nm)) dL_law_1043 (by decide) hx (vp_inD (by decide +kernel)) ?_
  refine x_top (M := (M_law nm)) (y := a1) ((congrArg xs (by decide +kernel : ((Int32.ofInt 1) + (Int32.ofInt 2)).toNatClampNeg = 3)).trans e3) ?_
  refine x_aload_n (M := (M_law nm)) dL_law_1044 rfl ?_
  refine x_iload (M := (M_law nm)) dL_law_1045 rfl ?_
  refine x_iconst (M := (M_law nm)) dL_law_1047 ?_
  refine x_iadd (M := (M_law nm)) dL_law_1048 ?_
  refine x_sald (M := (M_law nm)) dL_law_1049 (by decide) hx (vp_inD (by decide +kernel)) ?_
  refine x_top (M := (M_law nm)) (y := a2) ((congrArg xs (by decide +kernel : ((Int32.ofInt 1) + (Int32.ofInt 3)).toNatClampNeg = 4)).trans e4) ?_
  refine x_aload_n (M := (M_law nm)) dL_law_1050 rfl ?_
  refine x_iload (M := (M_law nm)) dL_law_1051 rfl ?_
  refine x_iconst (M := (M_law nm)) dL_law_1053 ?_
  refine x_iadd (M := (M_law nm)) dL_law_1054 ?_
  refine x_sald (M := (M_law nm)) dL_law_1055 (by decide) hx (vp_inD (by decide +kernel)) ?_
  refine x_top (M := (M_law nm)) (y := a3) ((congrArg xs (by decide +kernel : ((Int32.ofInt 1) + (Int32.ofInt 4)).toNatClampNeg = 5)).trans e5) ?_
  refine x_aload_n (M := (M_law nm)) dL_law_1056 rfl ?_
  refine y_callSW (M := (M_law nm)) (M' := M_L_overlay) rfl rfl dL_law_1057 m_L_overlay t_1369 t_1370 (q2821 hl c0 o2822) rfl rfl (Nat.le_of_ble_eq_true rfl) (Nat.le_of_ble_eq_true rfl) (Nat.le_of_ble_eq_true rfl) (Nat.le_of_ble_eq_true rfl) (fun h2823 f2824 w2825 => ?_)
  refine x_istore (M := (M_law nm)) dL_law_1060 (Nat.le_of_ble_eq_true rfl) rfl ?_
  refine x_aload_n (M := (M_law nm)) dL_law_1062 rfl ?_
  refine x_aload_n (M := (M_law nm)) dL_law_1063 rfl ?_
  refine x_iload (M := (M_law nm)) dL_law_1064 rfl ?_
  refine x_iconst (M := (M_law nm)) dL_law_1066 ?_
  refine x_iadd (M := (M_law nm)) dL_law_1067 ?_
  refine x_sald (M := (M_law nm)) dL_law_1068 (by decide) hx (vp_inD (by decide +kernel)) ?_
  refine x_top (M := (M_law nm)) (y := a0) ((congrArg xs (by decide +kernel : ((Int32.ofInt 1) + (Int32.ofInt 1)).toNatClampNeg = 2)).trans e2) ?_
  refine x_aload_n (M := (M_law nm)) dL_law_1069 rfl ?_
  refine x_iload (M := (M_law nm)) dL_law_1070 rfl ?_
  refine x_iconst (M := (M_law nm)) dL_law_1072 ?_
  refine x_iadd (M := (M_law nm)) dL_law_1073 ?_
  refine x_sald (M := (M_law nm)) dL_law_1074 (by decide) hx (vp_inD (by decide +kernel)) ?_
  refine x_top (M := (M_law nm)) (y := a1) ((congrArg xs (by decide +kernel : ((Int32.ofInt 1) + (Int32.ofInt 2)).toNatClampNeg = 3)).trans e3) ?_
  refine x_aload_n (M := (M_law nm)) dL_law_1075 rfl ?_
  refine x_iload (M := (M_law nm)) dL_law_1076 rfl ?_
  refine x_iconst (M := (M_law nm)) dL_law_1078 ?_
  refine x_iadd (M := (M_law nm)) dL_law_1079 ?_
  refine x_sald (M := (M_law nm)) dL_law_1080 (by decide) hx (vp_inD (by decide +kernel)) ?_
  refine x_top (M := (M_law nm)) (y := a2) ((congrArg xs (by decide +kernel : ((Int32.ofInt 1) + (Int32.ofInt 3)).toNatClampNeg = 4)).trans e4) ?_
  refine x_aload_n (M := (M_law nm)) dL_law_1081 rfl ?_
  refine x_iload (M := (M_law nm)) dL_law_1082 rfl ?_
  refine x_iconst (M := (M_law nm)) dL_law_1084 ?_
  refine x_iadd (M := (M_law nm)) dL_law_1085 ?_
  refine x_sald (M := (M_law nm)) dL_law_1086 (by decide) hx (vp_inD (by decide +kernel)) ?_
  refine x_top (M := (M_law nm)) (y := a3) ((congrArg xs (by decide +kernel : ((Int32.ofInt 1) + (Int32.ofInt 4)).toNatClampNeg = 5)).trans e5) ?_
  have o2836 := (f2824 277 _ (by decide) o2835)
  refine y_callVR (M := (M_law nm)) (M' := M_X12_overlay) rfl rfl dL_law_1087 m_X12_overlay t_3350 t_3351 t_3352 (q2834 hl c0 o2836) rfl rfl o2836 rfl (Nat.le_of_ble_eq_true rfl) (Nat.le_of_ble_eq_true rfl) (Nat.le_of_ble_eq_true rfl) (Nat.le_of_ble_eq_true rfl) (fun h2837 f2838 w2839 => ?_)
  obtain ⟨o2840, -⟩ := w2839
  refine x_istore (M := (M_law nm)) dL_law_1090 (Nat.le_of_ble_eq_true rfl) rfl ?_
  refine x_aload_n (M := (M_law nm)) dL_law_1092 rfl ?_
  refine x_callVR (M := (M_law nm)) (M' := M_X12_thrown) rfl rfl dL_law_1093 m_X12_thrown t_2797 t_2798 t_2799 (q35 hl o2840) rfl rfl o2840 rfl (Nat.le_of_ble_eq_true rfl) (Nat.le_of_ble_eq_true rfl) (Nat.le_of_ble_eq_true rfl) (Nat.le_of_ble_eq_true rfl) ?_
  refine x_iload (M := (M_law nm)) dL_law_1096 rfl ?_
  refine x_icmp_eq (M := (M_law nm)) (tgt := 1103) dL_law_1098 (by decide) (fun _ => ?_) (fun q => absurd q (by decide +kernel))
  refine x_iload (M := (M_law nm)) dL_law_1103 rfl ?_
  refine x_if_ne (M := (M_law nm)) (tgt := 1120) dL_law_1105 (by decide) (fun _ => ?_) (fun q => absurd q (by decide +kernel))
  refine x_goto (M := (M_law nm)) (tgt := 2449) dL_law_1120 (by decide) ?_
  refine x_iinc (M := (M_law nm)) dL_law_2449 rfl (Nat.le_of_ble_eq_true rfl) rfl ?_
  refine x_lvs (M := (M_law nm)) (lv' := [some (.ref 0), some (.ref 32), some (.ref 277), some (.ref 359), some (.int (Int32.ofInt 7)), some (.int (Int32.ofInt 1)), some (.int (Int32.ofInt 0)), none]) (by rw [(by decide +kernel : (Int32.ofInt 1) + Int32.ofInt 6 = (Int32.ofInt 7))] <;> rfl) ?_
  refine x_goto (M := (M_law nm)) (tgt := 33) dL_law_2452 (by decide) ?_
  refine x_iload (M := (M_law nm)) dL_law_33 rfl ?_
  refine x_aload_n (M := (M_law nm)) dL_law_35 rfl ?_
  refine x_slen (M := (M_law nm)) dL_law_36 (by decide) hx ?_
  refine x_bipush (M := (M_law nm)) dL_law_37 ?_
  refine x_isub (M := (M_law nm)) dL_law_39 ?_
  refine x_icmp_gt (M := (M_law nm)) (tgt := 2455) dL_law_40 (by decide) (fun _ => ?_) (fun q => absurd q (by decide +kernel))
  refine x_iconst (M := (M_law nm)) dL_law_2455 ?_
  exact x_zret (M := (M_law nm)) dL_law_2456 rfl (by decide) rfl (Nat.le_of_ble_eq_true rfl) (Nat.le_of_ble_eq_true rfl)
set_option maxRecDepth 10000 in
theorem q2848 {l : Launch} {E : EE} (hl : l.stackTraces = false) {h : HP} {a0 : Int32} {a1 : Int32} {a2 : Int32} {a3 : Int32} (c0 : ¬ (a1.toInt < 0)) (c1 : a1.toInt < 32) (c2 : a2.toInt < 0) (o2843 : ob h 32 = some (.inr (14, [.ref 33, .ref 162, .ref 166, .int (0 : Int32), .int (0 : Int32), .int (0 : Int32), .ref 167, .ref 170, .ref 173, .ref 177, .ref 193, .ref 208, .ref 222, .ref 238, .ref 252, .ref 274, .ref 275, .ref 276, .int (0 : Int32)]))) (o2844 : ob h 33 = some (.inl (4, 32, .inr (.inr (.inr (.inr (shf 1 32))))))) : en_C l E M_X11_overlay 7 1 6 [.ref 32, .int a0, .int a1, .int a2, .int a3] h (pT "java/lang/IndexOutOfBoundsException" [] h (fun _ => True)) := by
  refine en_mk m_X11_overlay rfl hl (Nat.le_of_ble_eq_true rfl) ?_
  refine x_aload_n (M := M_X11_overlay) dX11_overlay_0 rfl ?_
  refine x_iload_n (M := M_X11_overlay) dX11_overlay_1 rfl ?_
  refine x_callVR (M := M_X11_overlay) (M' := M_X11_slotNumbered) rfl rfl dX11_overlay_2 m_X11_slotNumbered t_744 t_746 s_2 (q1503 hl c0 c1 o2843 o2844) rfl rfl o2843 rfl (Nat.le_of_ble_eq_true rfl) (Nat.le_of_ble_eq_true rfl) (Nat.le_of_ble_eq_true rfl) (Nat.le_of_ble_eq_true rfl) ?_
  refine x_astore (M := M_X11_overlay) dX11_overlay_5 (Nat.le_of_ble_eq_true rfl) rfl ?_
  refine x_aload_n (M := M_X11_overlay) dX11_overlay_7 rfl ?_
  refine x_iload_n (M := M_X11_overlay) dX11_overlay_8 rfl ?_
  exact y_callVX (M := M_X11_overlay) (M' := M_X11_slotNumbered) rfl rfl dX11_overlay_9 m_X11_slotNumbered t_744 t_746 s_2 (q2027 hl c2) rfl rfl o2843 rfl (Nat.le_of_ble_eq_true rfl) (Nat.le_of_ble_eq_true rfl) (Nat.le_of_ble_eq_true rfl) (Nat.le_of_ble_eq_true rfl) (fun h2845 f2846 w2847 => ⟨rfl, (fr_tr f2846 (fun _ h => nomatch h) fr_rf), trivial⟩)
set_option maxRecDepth 10000 in
theorem q2854 {l : Launch} {E : EE} (hl : l.stackTraces = false) {h : HP} {a0 : Int32} {a1 : Int32} {a2 : Int32} {a3 : Int32} (c0 : ¬ (a1.toInt < 0)) (c1 : a1.toInt < 32) (c2 : a2.toInt < 0) (o2849 : ob h 32 = some (.inr (14, [.ref 33, .ref 162, .ref 166, .int (0 : Int32), .int (0 : Int32), .int (0 : Int32), .ref 167, .ref 170, .ref 173, .ref 177, .ref 193, .ref 208, .ref 222, .ref 238, .ref 252, .ref 274, .ref 275, .ref 276, .int (0 : Int32)]))) (o2850 : ob h 33 = some (.inl (4, 32, .inr (.inr (.inr (.inr (shf 1 32))))))) : en_C l E M_L_overlay 8 1 6 [.ref 32, .int a0, .int a1, .int a2, .int a3, .ref 359] h (pF (some (.int (Int32.ofInt 1))) [] h (fun _ => True)) := by
  refine en_mkW m_L_overlay rfl hl (Nat.le_of_ble_eq_true rfl) ?_
  refine x_aload (M := M_L_overlay) dL_overlay_0 rfl ?_
  refine x_iconst (M := M_L_overlay) dL_overlay_2 ?_
  refine x_aload_n (M := M_L_overlay) dL_overlay_3 rfl ?_
  refine x_iload_n (M := M_L_overlay) dL_overlay_4 rfl ?_
  refine x_iload_n (M := M_L_overlay) dL_overlay_5 rfl ?_
  refine x_iload_n (M := M_L_overlay) dL_overlay_6 rfl ?_
  refine x_iload (M := M_L_overlay) dL_overlay_7 rfl ?_
  refine y_callVHX (M := M_L_overlay) (M' := M_X11_overlay) (i9 := 6) (nx := 19) rfl dL_overlay_9 m_X11_overlay t_1373 t_1374 t_1375 o2849 rfl (q2848 hl c0 c1 c2 o2849 o2850) rfl rfl (Nat.le_of_ble_eq_true rfl) (Nat.le_of_ble_eq_true rfl) (Nat.le_of_ble_eq_true rfl) (Nat.le_of_ble_eq_true rfl) (en_hdm (k0 := 6) [] [(0, 14, 21, 13), (0, 14, 25, 19), (0, 14, 29, 63)] rfl (fun _ h => nomatch h) (by decide +kernel) (by decide) t_739 n_750 dL_overlay_17) (by decide) rfl (fun h2851 f2852 w2853 => ?_)
  refine x_iconst (M := M_L_overlay) dL_overlay_19 ?_
  exact x_iret (M := M_L_overlay) dL_overlay_20 rfl ⟨rfl, (fr_tr f2852 (fun _ h => nomatch h) fr_rf), trivial⟩ (Nat.le_of_ble_eq_true rfl) (Nat.le_of_ble_eq_true rfl)
set_option maxRecDepth 10000 in
theorem q2868 {l : Launch} {E : EE} (hl : l.stackTraces = false) {h : HP} {a0 : Int32} {a1 : Int32} {a2 : Int32} {a3 : Int32} {dg : Int32} (c0 : ¬ (a1.toInt < 0)) (c1 : a1.toInt < 32) (c2 : a2.toInt < 0) (o2860 : ob h 277 = some (.inr (15, (RB dg)))) : en_C l E M_X12_overlay 1 0 0 [.ref 277, .int a0, .int a1, .int a2, .int a3] h (pF (some (.int (Int32.ofInt 0))) [277] h (fun h' => ob h' 277 = some (.inr (15, ((RB dg).set 0 (.int (Int32.ofInt 1))))) ∧ True)) := by
  refine en_mk m_X12_overlay rfl hl (Nat.le_of_ble_eq_true rfl) ?_
  refine x_aload_n (M := M_X12_overlay) dX12_overlay_0 rfl ?_
  refine x_iconst (M := M_X12_overlay) dX12_overlay_1 ?_
  refine y_put (M := M_X12_overlay) (ci := 15) (C := RX12) (T := TX12) (N := 135) (ty := tyX12) cl15 dX12_overlay_2 o2860 0 (by decide) t_2391 (Or.inl rfl) (Nat.le_of_ble_eq_true rfl) rfl (fun h2861 w2862 f2863 => ?_)
  refine x_aload_n (M := M_X12_overlay) dX12_overlay_5 rfl ?_
  refine x_iload_n (M := M_X12_overlay) dX12_overlay_6 rfl ?_
  refine x_callSR (M := M_X12_overlay) (M' := M_X12_isSlot) rfl rfl dX12_overlay_7 m_X12_isSlot t_2841 t_2842 (q1536 hl c0 c1) rfl rfl (Nat.le_of_ble_eq_true rfl) (Nat.le_of_ble_eq_true rfl) (Nat.le_of_ble_eq_true rfl) (Nat.le_of_ble_eq_true rfl) ?_
  refine x_if_eq (M := M_X12_overlay) (tgt := 28) dX12_overlay_10 (by decide) (fun q => absurd q (by decide +kernel)) (fun _ => ?_)
  refine x_iload_n (M := M_X12_overlay) dX12_overlay_13 rfl ?_
  refine x_callSR (M := M_X12_overlay) (M' := M_X12_isSlot) rfl rfl dX12_overlay_14 m_X12_isSlot t_2841 t_2842 (q2053 hl c2) rfl rfl (Nat.le_of_ble_eq_true rfl) (Nat.le_of_ble_eq_true rfl) (Nat.le_of_ble_eq_true rfl) (Nat.le_of_ble_eq_true rfl) ?_
  refine x_if_eq (M := M_X12_overlay) (tgt := 28) dX12_overlay_17 (by decide) (fun _ => ?_) (fun q => absurd q (by decide +kernel))
  refine x_iconst (M := M_X12_overlay) dX12_overlay_28 ?_
  refine x_goto (M := M_X12_overlay) (tgt := 33) dX12_overlay_29 (by decide) ?_
  refine x_iconst (M := M_X12_overlay) dX12_overlay_33 ?_
  refine y_callVR (M := M_X12_overlay) (M' := M_X12_fails) rfl rfl dX12_overlay_34 m_X12_fails t_2805 t_2807 s_157 (q22 hl w2862) rfl rfl w2862 rfl (Nat.le_of_ble_eq_true rfl) (Nat.le_of_ble_eq_true rfl) (Nat.le_of_ble_eq_true rfl) (Nat.le_of_ble_eq_true rfl) (fun h2864 f2865 w2866 => ?_)
  obtain ⟨o2867, -⟩ := w2866
  refine x_if_ne (M := M_X12_overlay) (tgt := 69) dX12_overlay_37 (by decide) (fun _ => ?_) (fun q => absurd q (by decide +kernel))
  refine x_iconst (M := M_X12_overlay) dX12_overlay_69 ?_
  exact x_iret (M := M_X12_overlay) dX12_overlay_70 rfl ⟨rfl, (fr_tr f2865 (by decide) (fr_tr f2863 (by decide) fr_rf)), ⟨o2867, trivial⟩⟩ (Nat.le_of_ble_eq_true rfl) (Nat.le_of_ble_eq_true rfl)
set_option maxRecDepth 10000 in
theorem lc14_1 {l : Launch} {E : EE} (hl : l.stackTraces = false) (nm : String) {xs : Nat → Int32} (hx : E.2.2.2.2 0 = some (7, xs)) {h : HP} {a0 : Int32} {a1 : Int32} {a2 : Int32} {a3 : Int32} {dg : Int32} (e2 : xs 2 = a0) (e3 : xs 3 = a1) (e4 : xs 4 = a2) (e5 : xs 5 = a3) (c0 : ¬ (a1.toInt < 0)) (c1 : a1.toInt < 32) (c2 : a2.toInt < 0) (o2855 : ob h 32 = some (.inr (14, [.ref 33, .ref 162, .ref 166, .int (0 : Int32), .int (0 : Int32), .int (0 : Int32), .ref 167, .ref 170, .ref 173, .ref 177, .ref 193, .ref 208, .ref 222, .ref 238, .ref 252, .ref 274, .ref 275, .ref 276, .int (0 : Int32)]))) (o2856 : ob h 33 = some (.inl (4, 32, .inr (.inr (.inr (.inr (shf 1 32))))))) (o2869 : ob h 277 = some (.inr (15, (RB dg)))) : XX l E (M_law nm) 1312 342628 8074320 (fun o _ => o = .inl (some (.int 1))) 1031 [some (.ref 0), some (.ref 32), some (.ref 277), some (.ref 359), some (.int (Int32.ofInt 1)), none, none, none] [] h 328 2463747 := by
  refine x_aload_n (M := (M_law nm)) dL_law_1031 rfl ?_
  refine x_aload_n (M := (M_law nm)) dL_law_1032 rfl ?_
  refine x_iload (M := (M_law nm)) dL_law_1033 rfl ?_
  refine x_iconst (M := (M_law nm)) dL_law_1035 ?_
  refine x_iadd (M := (M_law nm)) dL_law_1036 ?_
  refine x_sald (M := (M_law nm)) dL_law_1037 (by decide) hx (vp_inD (by decide +kernel)) ?_
  refine x_top (M := (M_law nm)) (y := a0) ((congrArg xs (by decide +kernel : ((Int32.ofInt 1) + (Int32.ofInt 1)).toNatClampNeg = 2)).trans e2) ?_
  refine x_aload_n (M := (M_law nm)) dL_law_1038 rfl ?_
  refine x_iload (M := (M_law nm)) dL_law_1039 rfl ?_
  refine x_iconst (M := (M_law nm)) dL_law_1041 ?_
  refine x_iadd (M := (M_law nm)) dL_law_1042 ?_
  refine x_sald (M := (M_law nm)) dL_law_1043 (by decide) hx (vp_inD (by decide +kernel)) ?_
  refine x_top (M := (M_law nm)) (y := a1) ((congrArg xs (by decide +kernel : ((Int32.ofInt 1) + (Int32.ofInt 2)).toNatClampNeg = 3)).trans e3) ?_
  refine x_aload_n (M := (M_law nm)) dL_law_1044 rfl ?_
  refine x_iload (M := (M_law nm)) dL_law_1045 rfl ?_
  refine x_iconst (M := (M_law nm)) dL_law_1047 ?_
  refine x_iadd (M := (M_law nm)) dL_law_1048 ?_
  refine x_sald (M := (M_law nm)) dL_law_1049 (by decide) hx (vp_inD (by decide +kernel)) ?_
  refine x_top (M := (M_law nm)) (y := a2) ((congrArg xs (by decide +kernel : ((Int32.ofInt 1) + (Int32.ofInt 3)).toNatClampNeg = 4)).trans e4) ?_
  refine x_aload_n (M := (M_law nm)) dL_law_1050 rfl ?_
  refine x_iload (M := (M_law nm)) dL_law_1051 rfl ?_
  refine x_iconst (M := (M_law nm)) dL_law_1053 ?_
  refine x_iadd (M := (M_law nm)) dL_law_1054 ?_
  refine x_sald (M := (M_law nm)) dL_law_1055 (by decide) hx (vp_inD (by decide +kernel)) ?_
  refine x_top (M := (M_law nm)) (y := a3) ((congrArg xs (by decide +kernel : ((Int32.ofInt 1) + (Int32.ofInt 4)).toNatClampNeg = 5)).trans e5) ?_
  refine x_aload_n (M := (M_law nm)) dL_law_1056 rfl ?_
  refine y_callSW (M := (M_law nm)) (M' := M_L_overlay) rfl rfl dL_law_1057 m_L_overlay t_1369 t_1370 (q2854 hl c0 c1 c2 o2855 o2856) rfl rfl (Nat.le_of_ble_eq_true rfl) (Nat.le_of_ble_eq_true rfl) (Nat.le_of_ble_eq_true rfl) (Nat.le_of_ble_eq_true rfl) (fun h2857 f2858 w2859 => ?_)
  refine x_istore (M := (M_law nm)) dL_law_1060 (Nat.le_of_ble_eq_true rfl) rfl ?_
  refine x_aload_n (M := (M_law nm)) dL_law_1062 rfl ?_
  refine x_aload_n (M := (M_law nm)) dL_law_1063 rfl ?_
  refine x_iload (M := (M_law nm)) dL_law_1064 rfl ?_
  refine x_iconst (M := (M_law nm)) dL_law_1066 ?_
  refine x_iadd (M := (M_law nm)) dL_law_1067 ?_
  refine x_sald (M := (M_law nm)) dL_law_1068 (by decide) hx (vp_inD (by decide +kernel)) ?_
  refine x_top (M := (M_law nm)) (y := a0) ((congrArg xs (by decide +kernel : ((Int32.ofInt 1) + (Int32.ofInt 1)).toNatClampNeg = 2)).trans e2) ?_
  refine x_aload_n (M := (M_law nm)) dL_law_1069 rfl ?_
  refine x_iload (M := (M_law nm)) dL_law_1070 rfl ?_
  refine x_iconst (M := (M_law nm)) dL_law_1072 ?_
  refine x_iadd (M := (M_law nm)) dL_law_1073 ?_
  refine x_sald (M := (M_law nm)) dL_law_1074 (by decide) hx (vp_inD (by decide +kernel)) ?_
  refine x_top (M := (M_law nm)) (y := a1) ((congrArg xs (by decide +kernel : ((Int32.ofInt 1) + (Int32.ofInt 2)).toNatClampNeg = 3)).trans e3) ?_
  refine x_aload_n (M := (M_law nm)) dL_law_1075 rfl ?_
  refine x_iload (M := (M_law nm)) dL_law_1076 rfl ?_
  refine x_iconst (M := (M_law nm)) dL_law_1078 ?_
  refine x_iadd (M := (M_law nm)) dL_law_1079 ?_
  refine x_sald (M := (M_law nm)) dL_law_1080 (by decide) hx (vp_inD (by decide +kernel)) ?_
  refine x_top (M := (M_law nm)) (y := a2) ((congrArg xs (by decide +kernel : ((Int32.ofInt 1) + (Int32.ofInt 3)).toNatClampNeg = 4)).trans e4) ?_
  refine x_aload_n (M := (M_law nm)) dL_law_1081 rfl ?_
  refine x_iload (M := (M_law nm)) dL_law_1082 rfl ?_
  refine x_iconst (M := (M_law nm)) dL_law_1084 ?_
  refine x_iadd (M := (M_law nm)) dL_law_1085 ?_
  refine x_sald (M := (M_law nm)) dL_law_1086 (by decide) hx (vp_inD (by decide +kernel)) ?_
  refine x_top (M := (M_law nm)) (y := a3) ((congrArg xs (by decide +kernel : ((Int32.ofInt 1) + (Int32.ofInt 4)).toNatClampNeg = 5)).trans e5) ?_
  have o2870 := (f2858 277 _ (by decide) o2869)
  refine y_callVR (M := (M_law nm)) (M' := M_X12_overlay) rfl rfl dL_law_1087 m_X12_overlay t_3350 t_3351 t_3352 (q2868 hl c0 c1 c2 o2870) rfl rfl o2870 rfl (Nat.le_of_ble_eq_true rfl) (Nat.le_of_ble_eq_true rfl) (Nat.le_of_ble_eq_true rfl) (Nat.le_of_ble_eq_true rfl) (fun h2871 f2872 w2873 => ?_)
  obtain ⟨o2874, -⟩ := w2873
  refine x_istore (M := (M_law nm)) dL_law_1090 (Nat.le_of_ble_eq_true rfl) rfl ?_
  refine x_aload_n (M := (M_law nm)) dL_law_1092 rfl ?_
  refine x_callVR (M := (M_law nm)) (M' := M_X12_thrown) rfl rfl dL_law_1093 m_X12_thrown t_2797 t_2798 t_2799 (q35 hl o2874) rfl rfl o2874 rfl (Nat.le_of_ble_eq_true rfl) (Nat.le_of_ble_eq_true rfl) (Nat.le_of_ble_eq_true rfl) (Nat.le_of_ble_eq_true rfl) ?_
  refine x_iload (M := (M_law nm)) dL_law_1096 rfl ?_
  refine x_icmp_eq (M := (M_law nm)) (tgt := 1103) dL_law_1098 (by decide) (fun _ => ?_) (fun q => absurd q (by decide +kernel))
  refine x_iload (M := (M_law nm)) dL_law_1103 rfl ?_
  refine x_if_ne (M := (M_law nm)) (tgt := 1120) dL_law_1105 (by decide) (fun _ => ?_) (fun q => absurd q (by decide +kernel))
  refine x_goto (M := (M_law nm)) (tgt := 2449) dL_law_1120 (by decide) ?_
  refine x_iinc (M := (M_law nm)) dL_law_2449 rfl (Nat.le_of_ble_eq_true rfl) rfl ?_
  refine x_lvs (M := (M_law nm)) (lv' := [some (.ref 0), some (.ref 32), some (.ref 277), some (.ref 359), some (.int (Int32.ofInt 7)), some (.int (Int32.ofInt 1)), some (.int (Int32.ofInt 0)), none]) (by rw [(by decide +kernel : (Int32.ofInt 1) + Int32.ofInt 6 = (Int32.ofInt 7))] <;> rfl) ?_
  refine x_goto (M := (M_law nm)) (tgt := 33) dL_law_2452 (by decide) ?_
  refine x_iload (M := (M_law nm)) dL_law_33 rfl ?_
  refine x_aload_n (M := (M_law nm)) dL_law_35 rfl ?_
  refine x_slen (M := (M_law nm)) dL_law_36 (by decide) hx ?_
  refine x_bipush (M := (M_law nm)) dL_law_37 ?_
  refine x_isub (M := (M_law nm)) dL_law_39 ?_
  refine x_icmp_gt (M := (M_law nm)) (tgt := 2455) dL_law_40 (by decide) (fun _ => ?_) (fun q => absurd q (by decide +kernel))
  refine x_iconst (M := (M_law nm)) dL_law_2455 ?_
  exact x_zret (M := (M_law nm)) dL_law_2456 rfl (by decide) rfl (Nat.le_of_ble_eq_true rfl) (Nat.le_of_ble_eq_true rfl)
set_option maxRecDepth 10000 in
theorem q2882 {l : Launch} {E : EE} (hl : l.stackTraces = false) {h : HP} {a3 : Int32} (c0 : a3.toInt < 0) : en_C l E M_X11_slotNumbered 6 1 6 [.ref 32, .int a3] h (pT "java/lang/IndexOutOfBoundsException" [] h (fun _ => True)) := by
  refine en_mk m_X11_slotNumbered rfl hl (Nat.le_of_ble_eq_true rfl) ?_
  refine x_iload_n (M := M_X11_slotNumbered) dX11_slotNumbered_0 rfl ?_
  refine x_if_lt (M := M_X11_slotNumbered) (tgt := 10) dX11_slotNumbered_1 (by decide) (fun _ => ?_) (fun q => absurd ((bi_lt rfl (by decide +kernel)).mpr (by omega : (a3.toInt < 0 : Prop))) q)
  exact x_throw (M := M_X11_slotNumbered) (names := en_nm) rfl dX11_slotNumbered_10 dX11_slotNumbered_13 dX11_slotNumbered_14 dX11_slotNumbered_17 (by decide +kernel) en_nm_ok (Or.inl t_748) (Or.inl t_22) (at_X11_IndexOutOfBoundsException_139) (Nat.le_of_ble_eq_true rfl) (Nat.le_of_ble_eq_true rfl) (Nat.le_of_ble_eq_true rfl) (Nat.le_of_ble_eq_true rfl) (fun n9 => ⟨rfl, (fr_tr (fr_app (List.replicate n9 none)) (fun _ h => nomatch h) fr_rf), trivial⟩)
set_option maxRecDepth 10000 in
theorem q2886 {l : Launch} {E : EE} (hl : l.stackTraces = false) {h : HP} {a0 : Int32} {a1 : Int32} {a2 : Int32} {a3 : Int32} (c0 : ¬ (a1.toInt < 0)) (c1 : a1.toInt < 32) (c2 : ¬ (a2.toInt < 0)) (c3 : a2.toInt < 32) (c4 : a3.toInt < 0) (o2879 : ob h 32 = some (.inr (14, [.ref 33, .ref 162, .ref 166, .int (0 : Int32), .int (0 : Int32), .int (0 : Int32), .ref 167, .ref 170, .ref 173, .ref 177, .ref 193, .ref 208, .ref 222, .ref 238, .ref 252, .ref 274, .ref 275, .ref 276, .int (0 : Int32)]))) (o2880 : ob h 33 = some (.inl (4, 32, .inr (.inr (.inr (.inr (shf 1 32))))))) : en_C l E M_X11_overlay 7 1 6 [.ref 32, .int a0, .int a1, .int a2, .int a3] h (pT "java/lang/IndexOutOfBoundsException" [] h (fun _ => True)) := by
  refine en_mk m_X11_overlay rfl hl (Nat.le_of_ble_eq_true rfl) ?_
  refine x_aload_n (M := M_X11_overlay) dX11_overlay_0 rfl ?_
  refine x_iload_n (M := M_X11_overlay) dX11_overlay_1 rfl ?_
  refine x_callVR (M := M_X11_overlay) (M' := M_X11_slotNumbered) rfl rfl dX11_overlay_2 m_X11_slotNumbered t_744 t_746 s_2 (q1503 hl c0 c1 o2879 o2880) rfl rfl o2879 rfl (Nat.le_of_ble_eq_true rfl) (Nat.le_of_ble_eq_true rfl) (Nat.le_of_ble_eq_true rfl) (Nat.le_of_ble_eq_true rfl) ?_
  refine x_astore (M := M_X11_overlay) dX11_overlay_5 (Nat.le_of_ble_eq_true rfl) rfl ?_
  refine x_aload_n (M := M_X11_overlay) dX11_overlay_7 rfl ?_
  refine x_iload_n (M := M_X11_overlay) dX11_overlay_8 rfl ?_
  refine x_callVR (M := M_X11_overlay) (M' := M_X11_slotNumbered) rfl rfl dX11_overlay_9 m_X11_slotNumbered t_744 t_746 s_2 (q2071 hl c2 c3 o2879 o2880) rfl rfl o2879 rfl (Nat.le_of_ble_eq_true rfl) (Nat.le_of_ble_eq_true rfl) (Nat.le_of_ble_eq_true rfl) (Nat.le_of_ble_eq_true rfl) ?_
  refine x_astore (M := M_X11_overlay) dX11_overlay_12 (Nat.le_of_ble_eq_true rfl) rfl ?_
  refine x_aload_n (M := M_X11_overlay) dX11_overlay_14 rfl ?_
  refine x_iload (M := M_X11_overlay) dX11_overlay_15 rfl ?_
  exact y_callVX (M := M_X11_overlay) (M' := M_X11_slotNumbered) rfl rfl dX11_overlay_17 m_X11_slotNumbered t_744 t_746 s_2 (q2882 hl c4) rfl rfl o2879 rfl (Nat.le_of_ble_eq_true rfl) (Nat.le_of_ble_eq_true rfl) (Nat.le_of_ble_eq_true rfl) (Nat.le_of_ble_eq_true rfl) (fun h2883 f2884 w2885 => ⟨rfl, (fr_tr f2884 (fun _ h => nomatch h) fr_rf), trivial⟩)
set_option maxRecDepth 10000 in
theorem q2892 {l : Launch} {E : EE} (hl : l.stackTraces = false) {h : HP} {a0 : Int32} {a1 : Int32} {a2 : Int32} {a3 : Int32} (c0 : ¬ (a1.toInt < 0)) (c1 : a1.toInt < 32) (c2 : ¬ (a2.toInt < 0)) (c3 : a2.toInt < 32) (c4 : a3.toInt < 0) (o2887 : ob h 32 = some (.inr (14, [.ref 33, .ref 162, .ref 166, .int (0 : Int32), .int (0 : Int32), .int (0 : Int32), .ref 167, .ref 170, .ref 173, .ref 177, .ref 193, .ref 208, .ref 222, .ref 238, .ref 252, .ref 274, .ref 275, .ref 276, .int (0 : Int32)]))) (o2888 : ob h 33 = some (.inl (4, 32, .inr (.inr (.inr (.inr (shf 1 32))))))) : en_C l E M_L_overlay 8 1 6 [.ref 32, .int a0, .int a1, .int a2, .int a3, .ref 359] h (pF (some (.int (Int32.ofInt 1))) [] h (fun _ => True)) := by
  refine en_mkW m_L_overlay rfl hl (Nat.le_of_ble_eq_true rfl) ?_
  refine x_aload (M := M_L_overlay) dL_overlay_0 rfl ?_
  refine x_iconst (M := M_L_overlay) dL_overlay_2 ?_
  refine x_aload_n (M := M_L_overlay) dL_overlay_3 rfl ?_
  refine x_iload_n (M := M_L_overlay) dL_overlay_4 rfl ?_
  refine x_iload_n (M := M_L_overlay) dL_overlay_5 rfl ?_
  refine x_iload_n (M := M_L_overlay) dL_overlay_6 rfl ?_
  refine x_iload (M := M_L_overlay) dL_overlay_7 rfl ?_
  refine y_callVHX (M := M_L_overlay) (M' := M_X11_overlay) (i9 := 6) (nx := 19) rfl dL_overlay_9 m_X11_overlay t_1373 t_1374 t_1375 o2887 rfl (q2886 hl c0 c1 c2 c3 c4 o2887 o2888) rfl rfl (Nat.le_of_ble_eq_true rfl) (Nat.le_of_ble_eq_true rfl) (Nat.le_of_ble_eq_true rfl) (Nat.le_of_ble_eq_true rfl) (en_hdm (k0 := 6) [] [(0, 14, 21, 13), (0, 14, 25, 19), (0, 14, 29, 63)] rfl (fun _ h => nomatch h) (by decide +kernel) (by decide) t_739 n_750 dL_overlay_17) (by decide) rfl (fun h2889 f2890 w2891 => ?_)
  refine x_iconst (M := M_L_overlay) dL_overlay_19 ?_
  exact x_iret (M := M_L_overlay) dL_overlay_20 rfl ⟨rfl, (fr_tr f2890 (fun _ h => nomatch h) fr_rf), trivial⟩ (Nat.le_of_ble_eq_true rfl) (Nat.le_of_ble_eq_true rfl)
set_option maxRecDepth 10000 in
theorem q2902 {l : Launch} {E : EE} (hl : l.stackTraces = false) {h : HP} {a3 : Int32} (c0 : a3.toInt < 0) : en_C l E M_X12_isSlot 0 0 0 [.int a3] h (pR (some (.int (Int32.ofInt 0))) h) := by
  refine en_mk m_X12_isSlot rfl hl (Nat.le_of_ble_eq_true rfl) ?_
  refine x_iload_n (M := M_X12_isSlot) dX12_isSlot_0 rfl ?_
  refine x_if_lt (M := M_X12_isSlot) (tgt := 14) dX12_isSlot_1 (by decide) (fun _ => ?_) (fun q => absurd ((bi_lt rfl (by decide +kernel)).mpr (by omega : (a3.toInt < 0 : Prop))) q)
  refine x_iconst (M := M_X12_isSlot) dX12_isSlot_14 ?_
  exact x_zret (M := M_X12_isSlot) dX12_isSlot_15 rfl (by decide) ⟨rfl, rfl⟩ (Nat.le_of_ble_eq_true rfl) (Nat.le_of_ble_eq_true rfl)
set_option maxRecDepth 10000 in
theorem q2907 {l : Launch} {E : EE} (hl : l.stackTraces = false) {h : HP} {a0 : Int32} {a1 : Int32} {a2 : Int32} {a3 : Int32} {dg : Int32} (c0 : ¬ (a1.toInt < 0)) (c1 : a1.toInt < 32) (c2 : ¬ (a2.toInt < 0)) (c3 : a2.toInt < 32) (c4 : a3.toInt < 0) (o2898 : ob h 277 = some (.inr (15, (RB dg)))) : en_C l E M_X12_overlay 1 0 0 [.ref 277, .int a0, .int a1, .int a2, .int a3] h (pF (some (.int (Int32.ofInt 0))) [277] h (fun h' => ob h' 277 = some (.inr (15, ((RB dg).set 0 (.int (Int32.ofInt 1))))) ∧ True)) := by
  refine en_mk m_X12_overlay rfl hl (Nat.le_of_ble_eq_true rfl) ?_
  refine x_aload_n (M := M_X12_overlay) dX12_overlay_0 rfl ?_
  refine x_iconst (M := M_X12_overlay) dX12_overlay_1 ?_
  refine y_put (M := M_X12_overlay) (ci := 15) (C := RX12) (T := TX12) (N := 135) (ty := tyX12) cl15 dX12_overlay_2 o2898 0 (by decide) t_2391 (Or.inl rfl) (Nat.le_of_ble_eq_true rfl) rfl (fun h2899 w2900 f2901 => ?_)
  refine x_aload_n (M := M_X12_overlay) dX12_overlay_5 rfl ?_
  refine x_iload_n (M := M_X12_overlay) dX12_overlay_6 rfl ?_
  refine x_callSR (M := M_X12_overlay) (M' := M_X12_isSlot) rfl rfl dX12_overlay_7 m_X12_isSlot t_2841 t_2842 (q1536 hl c0 c1) rfl rfl (Nat.le_of_ble_eq_true rfl) (Nat.le_of_ble_eq_true rfl) (Nat.le_of_ble_eq_true rfl) (Nat.le_of_ble_eq_true rfl) ?_
  refine x_if_eq (M := M_X12_overlay) (tgt := 28) dX12_overlay_10 (by decide) (fun q => absurd q (by decide +kernel)) (fun _ => ?_)
  refine x_iload_n (M := M_X12_overlay) dX12_overlay_13 rfl ?_
  refine x_callSR (M := M_X12_overlay) (M' := M_X12_isSlot) rfl rfl dX12_overlay_14 m_X12_isSlot t_2841 t_2842 (q2106 hl c2 c3) rfl rfl (Nat.le_of_ble_eq_true rfl) (Nat.le_of_ble_eq_true rfl) (Nat.le_of_ble_eq_true rfl) (Nat.le_of_ble_eq_true rfl) ?_
  refine x_if_eq (M := M_X12_overlay) (tgt := 28) dX12_overlay_17 (by decide) (fun q => absurd q (by decide +kernel)) (fun _ => ?_)
  refine x_iload (M := M_X12_overlay) dX12_overlay_20 rfl ?_
  refine x_callSR (M := M_X12_overlay) (M' := M_X12_isSlot) rfl rfl dX12_overlay_22 m_X12_isSlot t_2841 t_2842 (q2902 hl c4) rfl rfl (Nat.le_of_ble_eq_true rfl) (Nat.le_of_ble_eq_true rfl) (Nat.le_of_ble_eq_true rfl) (Nat.le_of_ble_eq_true rfl) ?_
  refine x_if_ne (M := M_X12_overlay) (tgt := 32) dX12_overlay_25 (by decide) (fun q => absurd q (by decide +kernel)) (fun _ => ?_)
  refine x_iconst (M := M_X12_overlay) dX12_overlay_28 ?_
  refine x_goto (M := M_X12_overlay) (tgt := 33) dX12_overlay_29 (by decide) ?_
  refine x_iconst (M := M_X12_overlay) dX12_overlay_33 ?_
  refine y_callVR (M := M_X12_overlay) (M' := M_X12_fails) rfl rfl dX12_overlay_34 m_X12_fails t_2805 t_2807 s_157 (q22 hl w2900) rfl rfl w2900 rfl (Nat.le_of_ble_eq_true rfl) (Nat.le_of_ble_eq_true rfl) (Nat.le_of_ble_eq_true rfl) (Nat.le_of_ble_eq_true rfl) (fun h2903 f2904 w2905 => ?_)
  obtain ⟨o2906, -⟩ := w2905
  refine x_if_ne (M := M_X12_overlay) (tgt := 69) dX12_overlay_37 (by decide) (fun _ => ?_) (fun q => absurd q (by decide +kernel))
  refine x_iconst (M := M_X12_overlay) dX12_overlay_69 ?_
  exact x_iret (M := M_X12_overlay) dX12_overlay_70 rfl ⟨rfl, (fr_tr f2904 (by decide) (fr_tr f2901 (by decide) fr_rf)), ⟨o2906, trivial⟩⟩ (Nat.le_of_ble_eq_true rfl) (Nat.le_of_ble_eq_true rfl)
set_option maxRecDepth 10000 in
theorem lc14_2 {l : Launch} {E : EE} (hl : l.stackTraces = false) (nm : String) {xs : Nat → Int32} (hx : E.2.2.2.2 0 = some (7, xs)) {h : HP} {a0 : Int32} {a1 : Int32} {a2 : Int32} {a3 : Int32} {dg : Int32} (e2 : xs 2 = a0) (e3 : xs 3 = a1) (e4 : xs 4 = a2) (e5 : xs 5 = a3) (c0 : ¬ (a1.toInt < 0)) (c1 : a1.toInt < 32) (c2 : ¬ (a2.toInt < 0)) (c3 : a2.toInt < 32) (c4 : a3.toInt < 0) (o2893 : ob h 32 = some (.inr (14, [.ref 33, .ref 162, .ref 166, .int (0 : Int32), .int (0 : Int32), .int (0 : Int32), .ref 167, .ref 170, .ref 173, .ref 177, .ref 193, .ref 208, .ref 222, .ref 238, .ref 252, .ref 274, .ref 275, .ref 276, .int (0 : Int32)]))) (o2894 : ob h 33 = some (.inl (4, 32, .inr (.inr (.inr (.inr (shf 1 32))))))) (o2908 : ob h 277 = some (.inr (15, (RB dg)))) : XX l E (M_law nm) 1312 342628 8074320 (fun o _ => o = .inl (some (.int 1))) 1031 [some (.ref 0), some (.ref 32), some (.ref 277), some (.ref 359), some (.int (Int32.ofInt 1)), none, none, none] [] h 328 2463747 := by
  refine x_aload_n (M := (M_law nm)) dL_law_1031 rfl ?_
  refine x_aload_n (M := (M_law nm)) dL_law_1032 rfl ?_
  refine x_iload (M := (M_law nm)) dL_law_1033 rfl ?_
  refine x_iconst (M := (M_law nm)) dL_law_1035 ?_
  refine x_iadd (M := (M_law nm)) dL_law_1036 ?_
  refine x_sald (M := (M_law nm)) dL_law_1037 (by decide) hx (vp_inD (by decide +kernel)) ?_
  refine x_top (M := (M_law nm)) (y := a0) ((congrArg xs (by decide +kernel : ((Int32.ofInt 1) + (Int32.ofInt 1)).toNatClampNeg = 2)).trans e2) ?_
  refine x_aload_n (M := (M_law nm)) dL_law_1038 rfl ?_
  refine x_iload (M := (M_law nm)) dL_law_1039 rfl ?_
  refine x_iconst (M := (M_law nm)) dL_law_1041 ?_
  refine x_iadd (M := (M_law nm)) dL_law_1042 ?_
  refine x_sald (M := (M_law nm)) dL_law_1043 (by decide) hx (vp_inD (by decide +kernel)) ?_
  refine x_top (M := (M_law nm)) (y := a1) ((congrArg xs (by decide +kernel : ((Int32.ofInt 1) + (Int32.ofInt 2)).toNatClampNeg = 3)).trans e3) ?_
  refine x_aload_n (M := (M_law nm)) dL_law_1044 rfl ?_
  refine x_iload (M := (M_law nm)) dL_law_1045 rfl ?_
  refine x_iconst (M := (M_law nm)) dL_law_1047 ?_
  refine x_iadd (M := (M_law nm)) dL_law_1048 ?_
  refine x_sald (M := (M_law nm)) dL_law_1049 (by decide) hx (vp_inD (by decide +kernel)) ?_
  refine x_top (M := (M_law nm)) (y := a2) ((congrArg xs (by decide +kernel : ((Int32.ofInt 1) + (Int32.ofInt 3)).toNatClampNeg = 4)).trans e4) ?_
  refine x_aload_n (M := (M_law nm)) dL_law_1050 rfl ?_
  refine x_iload (M := (M_law nm)) dL_law_1051 rfl ?_
  refine x_iconst (M := (M_law nm)) dL_law_1053 ?_
  refine x_iadd (M := (M_law nm)) dL_law_1054 ?_
  refine x_sald (M := (M_law nm)) dL_law_1055 (by decide) hx (vp_inD (by decide +kernel)) ?_
  refine x_top (M := (M_law nm)) (y := a3) ((congrArg xs (by decide +kernel : ((Int32.ofInt 1) + (Int32.ofInt 4)).toNatClampNeg = 5)).trans e5) ?_
  refine x_aload_n (M := (M_law nm)) dL_law_1056 rfl ?_
  refine y_callSW (M := (M_law nm)) (M' := M_L_overlay) rfl rfl dL_law_1057 m_L_overlay t_1369 t_1370 (q2892 hl c0 c1 c2 c3 c4 o2893 o2894) rfl rfl (Nat.le_of_ble_eq_true rfl) (Nat.le_of_ble_eq_true rfl) (Nat.le_of_ble_eq_true rfl) (Nat.le_of_ble_eq_true rfl) (fun h2895 f2896 w2897 => ?_)
  refine x_istore (M := (M_law nm)) dL_law_1060 (Nat.le_of_ble_eq_true rfl) rfl ?_
  refine x_aload_n (M := (M_law nm)) dL_law_1062 rfl ?_
  refine x_aload_n (M := (M_law nm)) dL_law_1063 rfl ?_
  refine x_iload (M := (M_law nm)) dL_law_1064 rfl ?_
  refine x_iconst (M := (M_law nm)) dL_law_1066 ?_
  refine x_iadd (M := (M_law nm)) dL_law_1067 ?_
  refine x_sald (M := (M_law nm)) dL_law_1068 (by decide) hx (vp_inD (by decide +kernel)) ?_
  refine x_top (M := (M_law nm)) (y := a0) ((congrArg xs (by decide +kernel : ((Int32.ofInt 1) + (Int32.ofInt 1)).toNatClampNeg = 2)).trans e2) ?_
  refine x_aload_n (M := (M_law nm)) dL_law_1069 rfl ?_
  refine x_iload (M := (M_law nm)) dL_law_1070 rfl ?_
  refine x_iconst (M := (M_law nm)) dL_law_1072 ?_
  refine x_iadd (M := (M_law nm)) dL_law_1073 ?_
  refine x_sald (M := (M_law nm)) dL_law_1074 (by decide) hx (vp_inD (by decide +kernel)) ?_
  refine x_top (M := (M_law nm)) (y := a1) ((congrArg xs (by decide +kernel : ((Int32.ofInt 1) + (Int32.ofInt 2)).toNatClampNeg = 3)).trans e3) ?_
  refine x_aload_n (M := (M_law nm)) dL_law_1075 rfl ?_
  refine x_iload (M := (M_law nm)) dL_law_1076 rfl ?_
  refine x_iconst (M := (M_law nm)) dL_law_1078 ?_
  refine x_iadd (M := (M_law nm)) dL_law_1079 ?_
  refine x_sald (M := (M_law nm)) dL_law_1080 (by decide) hx (vp_inD (by decide +kernel)) ?_
  refine x_top (M := (M_law nm)) (y := a2) ((congrArg xs (by decide +kernel : ((Int32.ofInt 1) + (Int32.ofInt 3)).toNatClampNeg = 4)).trans e4) ?_
  refine x_aload_n (M := (M_law nm)) dL_law_1081 rfl ?_
  refine x_iload (M := (M_law nm)) dL_law_1082 rfl ?_
  refine x_iconst (M := (M_law nm)) dL_law_1084 ?_
  refine x_iadd (M := (M_law nm)) dL_law_1085 ?_
  refine x_sald (M := (M_law nm)) dL_law_1086 (by decide) hx (vp_inD (by decide +kernel)) ?_
  refine x_top (M := (M_law nm)) (y := a3) ((congrArg xs (by decide +kernel : ((Int32.ofInt 1) + (Int32.ofInt 4)).toNatClampNeg = 5)).trans e5) ?_
  have o2909 := (f2896 277 _ (by decide) o2908)
  refine y_callVR (M := (M_law nm)) (M' := M_X12_overlay) rfl rfl dL_law_1087 m_X12_overlay t_3350 t_3351 t_3352 (q2907 hl c0 c1 c2 c3 c4 o2909) rfl rfl o2909 rfl (Nat.le_of_ble_eq_true rfl) (Nat.le_of_ble_eq_true rfl) (Nat.le_of_ble_eq_true rfl) (Nat.le_of_ble_eq_true rfl) (fun h2910 f2911 w2912 => ?_)
  obtain ⟨o2913, -⟩ := w2912
  refine x_istore (M := (M_law nm)) dL_law_1090 (Nat.le_of_ble_eq_true rfl) rfl ?_
  refine x_aload_n (M := (M_law nm)) dL_law_1092 rfl ?_
  refine x_callVR (M := (M_law nm)) (M' := M_X12_thrown) rfl rfl dL_law_1093 m_X12_thrown t_2797 t_2798 t_2799 (q35 hl o2913) rfl rfl o2913 rfl (Nat.le_of_ble_eq_true rfl) (Nat.le_of_ble_eq_true rfl) (Nat.le_of_ble_eq_true rfl) (Nat.le_of_ble_eq_true rfl) ?_
  refine x_iload (M := (M_law nm)) dL_law_1096 rfl ?_
  refine x_icmp_eq (M := (M_law nm)) (tgt := 1103) dL_law_1098 (by decide) (fun _ => ?_) (fun q => absurd q (by decide +kernel))
  refine x_iload (M := (M_law nm)) dL_law_1103 rfl ?_
  refine x_if_ne (M := (M_law nm)) (tgt := 1120) dL_law_1105 (by decide) (fun _ => ?_) (fun q => absurd q (by decide +kernel))
  refine x_goto (M := (M_law nm)) (tgt := 2449) dL_law_1120 (by decide) ?_
  refine x_iinc (M := (M_law nm)) dL_law_2449 rfl (Nat.le_of_ble_eq_true rfl) rfl ?_
  refine x_lvs (M := (M_law nm)) (lv' := [some (.ref 0), some (.ref 32), some (.ref 277), some (.ref 359), some (.int (Int32.ofInt 7)), some (.int (Int32.ofInt 1)), some (.int (Int32.ofInt 0)), none]) (by rw [(by decide +kernel : (Int32.ofInt 1) + Int32.ofInt 6 = (Int32.ofInt 7))] <;> rfl) ?_
  refine x_goto (M := (M_law nm)) (tgt := 33) dL_law_2452 (by decide) ?_
  refine x_iload (M := (M_law nm)) dL_law_33 rfl ?_
  refine x_aload_n (M := (M_law nm)) dL_law_35 rfl ?_
  refine x_slen (M := (M_law nm)) dL_law_36 (by decide) hx ?_
  refine x_bipush (M := (M_law nm)) dL_law_37 ?_
  refine x_isub (M := (M_law nm)) dL_law_39 ?_
  refine x_icmp_gt (M := (M_law nm)) (tgt := 2455) dL_law_40 (by decide) (fun _ => ?_) (fun q => absurd q (by decide +kernel))
  refine x_iconst (M := (M_law nm)) dL_law_2455 ?_
  exact x_zret (M := (M_law nm)) dL_law_2456 rfl (by decide) rfl (Nat.le_of_ble_eq_true rfl) (Nat.le_of_ble_eq_true rfl)
set_option maxRecDepth 10000 in
theorem q2920 {l : Launch} {E : EE} (hl : l.stackTraces = false) {h : HP} {a3 : Int32} (c0 : ¬ (a3.toInt < 0)) (c1 : a3.toInt < 32) (o2918 : ob h 32 = some (.inr (14, [.ref 33, .ref 162, .ref 166, .int (0 : Int32), .int (0 : Int32), .int (0 : Int32), .ref 167, .ref 170, .ref 173, .ref 177, .ref 193, .ref 208, .ref 222, .ref 238, .ref 252, .ref 274, .ref 275, .ref 276, .int (0 : Int32)]))) (o2919 : ob h 33 = some (.inl (4, 32, .inr (.inr (.inr (.inr (shf 1 32))))))) : en_C l E M_X11_slotNumbered 0 0 0 [.ref 32, .int a3] h (pR (some (.ref (34 + 4 * a3.toNatClampNeg))) h) := by
  have n_a3 : a3.toNatClampNeg < 32 := nc_lt (by omega) (by decide)
  refine en_mk m_X11_slotNumbered rfl hl (Nat.le_of_ble_eq_true rfl) ?_
  refine x_iload_n (M := M_X11_slotNumbered) dX11_slotNumbered_0 rfl ?_
  refine x_if_lt (M := M_X11_slotNumbered) (tgt := 10) dX11_slotNumbered_1 (by decide) (fun q => absurd ((bi_lt rfl (by decide +kernel)).mp q) (by omega : ¬ (a3.toInt < 0))) (fun _ => ?_)
  refine x_iload_n (M := M_X11_slotNumbered) dX11_slotNumbered_4 rfl ?_
  refine x_bipush (M := M_X11_slotNumbered) dX11_slotNumbered_5 ?_
  refine x_icmp_lt (M := M_X11_slotNumbered) (tgt := 18) dX11_slotNumbered_7 (by decide) (fun _ => ?_) (fun q => absurd ((bi_lt rfl (by decide +kernel)).mpr (by omega : (a3.toInt < 32 : Prop))) q)
  refine x_aload_n (M := M_X11_slotNumbered) dX11_slotNumbered_18 rfl ?_
  refine x_getf (M := M_X11_slotNumbered) (ci := 14) (C := RX11) (T := TX11) (N := 19) (ty := tyX11) cl14 dX11_slotNumbered_19 o2918 0 (by decide) t_563 (v := .ref 33) rfl ?_
  refine x_iload_n (M := M_X11_slotNumbered) dX11_slotNumbered_22 rfl ?_
  refine x_aald (M := M_X11_slotNumbered) (b := 34 + 4 * a3.toNatClampNeg) dX11_slotNumbered_23 o2919 (vp_in_s (by omega) (by omega)) (shf_at n_a3) ?_
  exact x_aret (M := M_X11_slotNumbered) dX11_slotNumbered_24 rfl ⟨rfl, rfl⟩ (Nat.le_of_ble_eq_true rfl) (Nat.le_of_ble_eq_true rfl)
set_option maxRecDepth 10000 in
theorem q2925 {l : Launch} {E : EE} (hl : l.stackTraces = false) {h : HP} {a0 : Int32} {a1 : Int32} {a2 : Int32} {a3 : Int32} (c0 : ¬ (a1.toInt < 0)) (c1 : a1.toInt < 32) (c2 : ¬ (a2.toInt < 0)) (c3 : a2.toInt < 32) (c4 : ¬ (a3.toInt < 0)) (c5 : a3.toInt < 32) (o2916 : ob h 32 = some (.inr (14, [.ref 33, .ref 162, .ref 166, .int (0 : Int32), .int (0 : Int32), .int (0 : Int32), .ref 167, .ref 170, .ref 173, .ref 177, .ref 193, .ref 208, .ref 222, .ref 238, .ref 252, .ref 274, .ref 275, .ref 276, .int (0 : Int32)]))) (o2917 : ob h 33 = some (.inl (4, 32, .inr (.inr (.inr (.inr (shf 1 32))))))) (o2921 : ob h (34 + 4 * a1.toNatClampNeg) = some (.inr (9, [.ref (35 + 4 * a1.toNatClampNeg), .ref (36 + 4 * a1.toNatClampNeg), .ref (37 + 4 * a1.toNatClampNeg), .int (0 : Int32), .int (0 : Int32)]))) : en_C l E M_X11_overlay 7 1 6 [.ref 32, .int a0, .int a1, .int a2, .int a3] h (pT "java/lang/IllegalStateException" [] h (fun _ => True)) := by
  have n_a1 : a1.toNatClampNeg < 32 := nc_lt (by omega) (by decide)
  refine en_mk m_X11_overlay rfl hl (Nat.le_of_ble_eq_true rfl) ?_
  refine x_aload_n (M := M_X11_overlay) dX11_overlay_0 rfl ?_
  refine x_iload_n (M := M_X11_overlay) dX11_overlay_1 rfl ?_
  refine x_callVR (M := M_X11_overlay) (M' := M_X11_slotNumbered) rfl rfl dX11_overlay_2 m_X11_slotNumbered t_744 t_746 s_2 (q1503 hl c0 c1 o2916 o2917) rfl rfl o2916 rfl (Nat.le_of_ble_eq_true rfl) (Nat.le_of_ble_eq_true rfl) (Nat.le_of_ble_eq_true rfl) (Nat.le_of_ble_eq_true rfl) ?_
  refine x_astore (M := M_X11_overlay) dX11_overlay_5 (Nat.le_of_ble_eq_true rfl) rfl ?_
  refine x_aload_n (M := M_X11_overlay) dX11_overlay_7 rfl ?_
  refine x_iload_n (M := M_X11_overlay) dX11_overlay_8 rfl ?_
  refine x_callVR (M := M_X11_overlay) (M' := M_X11_slotNumbered) rfl rfl dX11_overlay_9 m_X11_slotNumbered t_744 t_746 s_2 (q2071 hl c2 c3 o2916 o2917) rfl rfl o2916 rfl (Nat.le_of_ble_eq_true rfl) (Nat.le_of_ble_eq_true rfl) (Nat.le_of_ble_eq_true rfl) (Nat.le_of_ble_eq_true rfl) ?_
  refine x_astore (M := M_X11_overlay) dX11_overlay_12 (Nat.le_of_ble_eq_true rfl) rfl ?_
  refine x_aload_n (M := M_X11_overlay) dX11_overlay_14 rfl ?_
  refine x_iload (M := M_X11_overlay) dX11_overlay_15 rfl ?_
  refine x_callVR (M := M_X11_overlay) (M' := M_X11_slotNumbered) rfl rfl dX11_overlay_17 m_X11_slotNumbered t_744 t_746 s_2 (q2920 hl c4 c5 o2916 o2917) rfl rfl o2916 rfl (Nat.le_of_ble_eq_true rfl) (Nat.le_of_ble_eq_true rfl) (Nat.le_of_ble_eq_true rfl) (Nat.le_of_ble_eq_true rfl) ?_
  refine x_astore (M := M_X11_overlay) dX11_overlay_20 (Nat.le_of_ble_eq_true rfl) rfl ?_
  refine x_aload (M := M_X11_overlay) dX11_overlay_22 rfl ?_
  exact y_callSX (M := M_X11_overlay) (M' := M_X11_mustBeThere) rfl rfl dX11_overlay_24 m_X11_mustBeThere t_1047 t_1048 (q2076 hl c0 c1 o2921) rfl rfl (Nat.le_of_ble_eq_true rfl) (Nat.le_of_ble_eq_true rfl) (Nat.le_of_ble_eq_true rfl) (Nat.le_of_ble_eq_true rfl) (fun h2922 f2923 w2924 => ⟨rfl, (fr_tr f2923 (fun _ h => nomatch h) fr_rf), trivial⟩)
set_option maxRecDepth 10000 in
theorem q2932 {l : Launch} {E : EE} (hl : l.stackTraces = false) {h : HP} {a0 : Int32} {a1 : Int32} {a2 : Int32} {a3 : Int32} (c0 : ¬ (a1.toInt < 0)) (c1 : a1.toInt < 32) (c2 : ¬ (a2.toInt < 0)) (c3 : a2.toInt < 32) (c4 : ¬ (a3.toInt < 0)) (c5 : a3.toInt < 32) (o2926 : ob h 32 = some (.inr (14, [.ref 33, .ref 162, .ref 166, .int (0 : Int32), .int (0 : Int32), .int (0 : Int32), .ref 167, .ref 170, .ref 173, .ref 177, .ref 193, .ref 208, .ref 222, .ref 238, .ref 252, .ref 274, .ref 275, .ref 276, .int (0 : Int32)]))) (o2927 : ob h 33 = some (.inl (4, 32, .inr (.inr (.inr (.inr (shf 1 32))))))) (o2928 : ob h (34 + 4 * a1.toNatClampNeg) = some (.inr (9, [.ref (35 + 4 * a1.toNatClampNeg), .ref (36 + 4 * a1.toNatClampNeg), .ref (37 + 4 * a1.toNatClampNeg), .int (0 : Int32), .int (0 : Int32)]))) : en_C l E M_L_overlay 8 1 6 [.ref 32, .int a0, .int a1, .int a2, .int a3, .ref 359] h (pF (some (.int (Int32.ofInt 2))) [] h (fun _ => True)) := by
  have n_a1 : a1.toNatClampNeg < 32 := nc_lt (by omega) (by decide)
  refine en_mkW m_L_overlay rfl hl (Nat.le_of_ble_eq_true rfl) ?_
  refine x_aload (M := M_L_overlay) dL_overlay_0 rfl ?_
  refine x_iconst (M := M_L_overlay) dL_overlay_2 ?_
  refine x_aload_n (M := M_L_overlay) dL_overlay_3 rfl ?_
  refine x_iload_n (M := M_L_overlay) dL_overlay_4 rfl ?_
  refine x_iload_n (M := M_L_overlay) dL_overlay_5 rfl ?_
  refine x_iload_n (M := M_L_overlay) dL_overlay_6 rfl ?_
  refine x_iload (M := M_L_overlay) dL_overlay_7 rfl ?_
  refine y_callVHX (M := M_L_overlay) (M' := M_X11_overlay) (i9 := 6) (nx := 23) rfl dL_overlay_9 m_X11_overlay t_1373 t_1374 t_1375 o2926 rfl (q2925 hl c0 c1 c2 c3 c4 c5 o2926 o2927 o2928) rfl rfl (Nat.le_of_ble_eq_true rfl) (Nat.le_of_ble_eq_true rfl) (Nat.le_of_ble_eq_true rfl) (Nat.le_of_ble_eq_true rfl) (en_hdm (k0 := 6) [(0, 14, 17, 24)] [(0, 14, 25, 19), (0, 14, 29, 63)] rfl (List.forall_mem_cons.mpr ⟨⟨by decide, "java/lang/IndexOutOfBoundsException", t_739, by decide +kernel, by decide +kernel, by decide +kernel⟩, (fun _ h => nomatch h)⟩) (by decide +kernel) (by decide) t_637 n_645 dL_overlay_21) (by decide) rfl (fun h2929 f2930 w2931 => ?_)
  refine x_iconst (M := M_L_overlay) dL_overlay_23 ?_
  exact x_iret (M := M_L_overlay) dL_overlay_24 rfl ⟨rfl, (fr_tr f2930 (fun _ h => nomatch h) fr_rf), trivial⟩ (Nat.le_of_ble_eq_true rfl) (Nat.le_of_ble_eq_true rfl)
set_option maxRecDepth 10000 in
theorem q2943 {l : Launch} {E : EE} (hl : l.stackTraces = false) {h : HP} {a3 : Int32} (c0 : ¬ (a3.toInt < 0)) (c1 : a3.toInt < 32) : en_C l E M_X12_isSlot 0 0 0 [.int a3] h (pR (some (.int (Int32.ofInt 1))) h) := by
  refine en_mk m_X12_isSlot rfl hl (Nat.le_of_ble_eq_true rfl) ?_
  refine x_iload_n (M := M_X12_isSlot) dX12_isSlot_0 rfl ?_
  refine x_if_lt (M := M_X12_isSlot) (tgt := 14) dX12_isSlot_1 (by decide) (fun q => absurd ((bi_lt rfl (by decide +kernel)).mp q) (by omega : ¬ (a3.toInt < 0))) (fun _ => ?_)
  refine x_iload_n (M := M_X12_isSlot) dX12_isSlot_4 rfl ?_
  refine x_bipush (M := M_X12_isSlot) dX12_isSlot_5 ?_
  refine x_icmp_ge (M := M_X12_isSlot) (tgt := 14) dX12_isSlot_7 (by decide) (fun q => absurd ((bi_le (by decide +kernel) rfl).mp q) (by omega : ¬ (32 ≤ a3.toInt))) (fun _ => ?_)
  refine x_iconst (M := M_X12_isSlot) dX12_isSlot_10 ?_
  refine x_goto (M := M_X12_isSlot) (tgt := 15) dX12_isSlot_11 (by decide) ?_
  exact x_zret (M := M_X12_isSlot) dX12_isSlot_15 rfl (by decide) ⟨rfl, rfl⟩ (Nat.le_of_ble_eq_true rfl) (Nat.le_of_ble_eq_true rfl)
set_option maxRecDepth 10000 in
theorem q2954 {l : Launch} {E : EE} (hl : l.stackTraces = false) {h : HP} {a0 : Int32} {a1 : Int32} {a2 : Int32} {a3 : Int32} {dg : Int32} (c0 : ¬ (a1.toInt < 0)) (c1 : a1.toInt < 32) (c2 : ¬ (a2.toInt < 0)) (c3 : a2.toInt < 32) (c4 : ¬ (a3.toInt < 0)) (c5 : a3.toInt < 32) (o2939 : ob h 277 = some (.inr (15, (RB dg)))) (o2948 : ob h 280 = some (.inl (0, 33, .inl (fun _ => 0)))) : en_C l E M_X12_overlay 1 0 0 [.ref 277, .int a0, .int a1, .int a2, .int a3] h (pF (some (.int (Int32.ofInt 0))) [277] h (fun h' => ob h' 277 = some (.inr (15, ((RB dg).set 0 (.int (Int32.ofInt 2))))) ∧ True)) := by
  refine en_mk m_X12_overlay rfl hl (Nat.le_of_ble_eq_true rfl) ?_
  refine x_aload_n (M := M_X12_overlay) dX12_overlay_0 rfl ?_
  refine x_iconst (M := M_X12_overlay) dX12_overlay_1 ?_
  refine y_put (M := M_X12_overlay) (ci := 15) (C := RX12) (T := TX12) (N := 135) (ty := tyX12) cl15 dX12_overlay_2 o2939 0 (by decide) t_2391 (Or.inl rfl) (Nat.le_of_ble_eq_true rfl) rfl (fun h2940 w2941 f2942 => ?_)
  refine x_aload_n (M := M_X12_overlay) dX12_overlay_5 rfl ?_
  refine x_iload_n (M := M_X12_overlay) dX12_overlay_6 rfl ?_
  refine x_callSR (M := M_X12_overlay) (M' := M_X12_isSlot) rfl rfl dX12_overlay_7 m_X12_isSlot t_2841 t_2842 (q1536 hl c0 c1) rfl rfl (Nat.le_of_ble_eq_true rfl) (Nat.le_of_ble_eq_true rfl) (Nat.le_of_ble_eq_true rfl) (Nat.le_of_ble_eq_true rfl) ?_
  refine x_if_eq (M := M_X12_overlay) (tgt := 28) dX12_overlay_10 (by decide) (fun q => absurd q (by decide +kernel)) (fun _ => ?_)
  refine x_iload_n (M := M_X12_overlay) dX12_overlay_13 rfl ?_
  refine x_callSR (M := M_X12_overlay) (M' := M_X12_isSlot) rfl rfl dX12_overlay_14 m_X12_isSlot t_2841 t_2842 (q2106 hl c2 c3) rfl rfl (Nat.le_of_ble_eq_true rfl) (Nat.le_of_ble_eq_true rfl) (Nat.le_of_ble_eq_true rfl) (Nat.le_of_ble_eq_true rfl) ?_
  refine x_if_eq (M := M_X12_overlay) (tgt := 28) dX12_overlay_17 (by decide) (fun q => absurd q (by decide +kernel)) (fun _ => ?_)
  refine x_iload (M := M_X12_overlay) dX12_overlay_20 rfl ?_
  refine x_callSR (M := M_X12_overlay) (M' := M_X12_isSlot) rfl rfl dX12_overlay_22 m_X12_isSlot t_2841 t_2842 (q2943 hl c4 c5) rfl rfl (Nat.le_of_ble_eq_true rfl) (Nat.le_of_ble_eq_true rfl) (Nat.le_of_ble_eq_true rfl) (Nat.le_of_ble_eq_true rfl) ?_
  refine x_if_ne (M := M_X12_overlay) (tgt := 32) dX12_overlay_25 (by decide) (fun _ => ?_) (fun q => absurd q (by decide +kernel))
  refine x_iconst (M := M_X12_overlay) dX12_overlay_32 ?_
  refine x_iconst (M := M_X12_overlay) dX12_overlay_33 ?_
  refine y_callVR (M := M_X12_overlay) (M' := M_X12_fails) rfl rfl dX12_overlay_34 m_X12_fails t_2805 t_2807 s_157 (q241 hl w2941) rfl rfl w2941 rfl (Nat.le_of_ble_eq_true rfl) (Nat.le_of_ble_eq_true rfl) (Nat.le_of_ble_eq_true rfl) (Nat.le_of_ble_eq_true rfl) (fun h2944 f2945 w2946 => ?_)
  obtain ⟨o2947, -⟩ := w2946
  refine x_if_ne (M := M_X12_overlay) (tgt := 69) dX12_overlay_37 (by decide) (fun q => absurd q (by decide +kernel)) (fun _ => ?_)
  refine x_aload_n (M := M_X12_overlay) dX12_overlay_40 rfl ?_
  refine x_aload_n (M := M_X12_overlay) dX12_overlay_41 rfl ?_
  refine x_iload_n (M := M_X12_overlay) dX12_overlay_42 rfl ?_
  have o2949 := (f2945 280 _ (by decide) (f2942 280 _ (by decide) o2948))
  refine x_callVR (M := M_X12_overlay) (M' := M_X12_has) rfl rfl dX12_overlay_43 m_X12_has t_3033 t_3035 s_197 (q2113 hl c0 c1 o2947 o2949) rfl rfl o2947 rfl (Nat.le_of_ble_eq_true rfl) (Nat.le_of_ble_eq_true rfl) (Nat.le_of_ble_eq_true rfl) (Nat.le_of_ble_eq_true rfl) ?_
  refine x_if_eq (M := M_X12_overlay) (tgt := 57) dX12_overlay_46 (by decide) (fun _ => ?_) (fun q => absurd q (by decide +kernel))
  refine x_iconst (M := M_X12_overlay) dX12_overlay_57 ?_
  refine x_goto (M := M_X12_overlay) (tgt := 62) dX12_overlay_58 (by decide) ?_
  refine x_iconst (M := M_X12_overlay) dX12_overlay_62 ?_
  refine y_callVR (M := M_X12_overlay) (M' := M_X12_fails) rfl rfl dX12_overlay_63 m_X12_fails t_2805 t_2807 s_157 (q761 hl o2947) rfl rfl o2947 rfl (Nat.le_of_ble_eq_true rfl) (Nat.le_of_ble_eq_true rfl) (Nat.le_of_ble_eq_true rfl) (Nat.le_of_ble_eq_true rfl) (fun h2950 f2951 w2952 => ?_)
  obtain ⟨o2953, -⟩ := w2952
  refine x_if_eq (M := M_X12_overlay) (tgt := 71) dX12_overlay_66 (by decide) (fun q => absurd q (by decide +kernel)) (fun _ => ?_)
  refine x_iconst (M := M_X12_overlay) dX12_overlay_69 ?_
  exact x_iret (M := M_X12_overlay) dX12_overlay_70 rfl ⟨rfl, (fr_tr f2951 (by decide) (fr_tr f2945 (by decide) (fr_tr f2942 (by decide) fr_rf))), ⟨o2953, trivial⟩⟩ (Nat.le_of_ble_eq_true rfl) (Nat.le_of_ble_eq_true rfl)
set_option maxRecDepth 10000 in
theorem lc14_3 {l : Launch} {E : EE} (hl : l.stackTraces = false) (nm : String) {xs : Nat → Int32} (hx : E.2.2.2.2 0 = some (7, xs)) {h : HP} {a0 : Int32} {a1 : Int32} {a2 : Int32} {a3 : Int32} {dg : Int32} (e2 : xs 2 = a0) (e3 : xs 3 = a1) (e4 : xs 4 = a2) (e5 : xs 5 = a3) (c0 : ¬ (a1.toInt < 0)) (c1 : a1.toInt < 32) (c2 : ¬ (a2.toInt < 0)) (c3 : a2.toInt < 32) (c4 : ¬ (a3.toInt < 0)) (c5 : a3.toInt < 32) (o2933 : ob h 32 = some (.inr (14, [.ref 33, .ref 162, .ref 166, .int (0 : Int32), .int (0 : Int32), .int (0 : Int32), .ref 167, .ref 170, .ref 173, .ref 177, .ref 193, .ref 208, .ref 222, .ref 238, .ref 252, .ref 274, .ref 275, .ref 276, .int (0 : Int32)]))) (o2934 : ob h 33 = some (.inl (4, 32, .inr (.inr (.inr (.inr (shf 1 32))))))) (o2935 : ob h (34 + 4 * a1.toNatClampNeg) = some (.inr (9, [.ref (35 + 4 * a1.toNatClampNeg), .ref (36 + 4 * a1.toNatClampNeg), .ref (37 + 4 * a1.toNatClampNeg), .int (0 : Int32), .int (0 : Int32)]))) (o2955 : ob h 277 = some (.inr (15, (RB dg)))) (o2957 : ob h 280 = some (.inl (0, 33, .inl (fun _ => 0)))) : XX l E (M_law nm) 1312 342628 8074320 (fun o _ => o = .inl (some (.int 1))) 1031 [some (.ref 0), some (.ref 32), some (.ref 277), some (.ref 359), some (.int (Int32.ofInt 1)), none, none, none] [] h 328 2463747 := by
  have n_a1 : a1.toNatClampNeg < 32 := nc_lt (by omega) (by decide)
  refine x_aload_n (M := (M_law nm)) dL_law_1031 rfl ?_
  refine x_aload_n (M := (M_law nm)) dL_law_1032 rfl ?_
  refine x_iload (M := (M_law nm)) dL_law_1033 rfl ?_
  refine x_iconst (M := (M_law nm)) dL_law_1035 ?_
  refine x_iadd (M := (M_law nm)) dL_law_1036 ?_
  refine x_sald (M := (M_law nm)) dL_law_1037 (by decide) hx (vp_inD (by decide +kernel)) ?_
  refine x_top (M := (M_law nm)) (y := a0) ((congrArg xs (by decide +kernel : ((Int32.ofInt 1) + (Int32.ofInt 1)).toNatClampNeg = 2)).trans e2) ?_
  refine x_aload_n (M := (M_law nm)) dL_law_1038 rfl ?_
  refine x_iload (M := (M_law nm)) dL_law_1039 rfl ?_
  refine x_iconst (M := (M_law nm)) dL_law_1041 ?_
  refine x_iadd (M := (M_law nm)) dL_law_1042 ?_
  refine x_sald (M := (M_law nm)) dL_law_1043 (by decide) hx (vp_inD (by decide +kernel)) ?_
  refine x_top (M := (M_law nm)) (y := a1) ((congrArg xs (by decide +kernel : ((Int32.ofInt 1) + (Int32.ofInt 2)).toNatClampNeg = 3)).trans e3) ?_
  refine x_aload_n (M := (M_law nm)) dL_law_1044 rfl ?_
  refine x_iload (M := (M_law nm)) dL_law_1045 rfl ?_
  refine x_iconst (M := (M_law nm)) dL_law_1047 ?_
  refine x_iadd (M := (M_law nm)) dL_law_1048 ?_
  refine x_sald (M := (M_law nm)) dL_law_1049 (by decide) hx (vp_inD (by decide +kernel)) ?_
  refine x_top (M := (M_law nm)) (y := a2) ((congrArg xs (by decide +kernel : ((Int32.ofInt 1) + (Int32.ofInt 3)).toNatClampNeg = 4)).trans e4) ?_
  refine x_aload_n (M := (M_law nm)) dL_law_1050 rfl ?_
  refine x_iload (M := (M_law nm)) dL_law_1051 rfl ?_
  refine x_iconst (M := (M_law nm)) dL_law_1053 ?_
  refine x_iadd (M := (M_law nm)) dL_law_1054 ?_
  refine x_sald (M := (M_law nm)) dL_law_1055 (by decide) hx (vp_inD (by decide +kernel)) ?_
  refine x_top (M := (M_law nm)) (y := a3) ((congrArg xs (by decide +kernel : ((Int32.ofInt 1) + (Int32.ofInt 4)).toNatClampNeg = 5)).trans e5) ?_
  refine x_aload_n (M := (M_law nm)) dL_law_1056 rfl ?_
  refine y_callSW (M := (M_law nm)) (M' := M_L_overlay) rfl rfl dL_law_1057 m_L_overlay t_1369 t_1370 (q2932 hl c0 c1 c2 c3 c4 c5 o2933 o2934 o2935) rfl rfl (Nat.le_of_ble_eq_true rfl) (Nat.le_of_ble_eq_true rfl) (Nat.le_of_ble_eq_true rfl) (Nat.le_of_ble_eq_true rfl) (fun h2936 f2937 w2938 => ?_)
  refine x_istore (M := (M_law nm)) dL_law_1060 (Nat.le_of_ble_eq_true rfl) rfl ?_
  refine x_aload_n (M := (M_law nm)) dL_law_1062 rfl ?_
  refine x_aload_n (M := (M_law nm)) dL_law_1063 rfl ?_
  refine x_iload (M := (M_law nm)) dL_law_1064 rfl ?_
  refine x_iconst (M := (M_law nm)) dL_law_1066 ?_
  refine x_iadd (M := (M_law nm)) dL_law_1067 ?_
  refine x_sald (M := (M_law nm)) dL_law_1068 (by decide) hx (vp_inD (by decide +kernel)) ?_
  refine x_top (M := (M_law nm)) (y := a0) ((congrArg xs (by decide +kernel : ((Int32.ofInt 1) + (Int32.ofInt 1)).toNatClampNeg = 2)).trans e2) ?_
  refine x_aload_n (M := (M_law nm)) dL_law_1069 rfl ?_
  refine x_iload (M := (M_law nm)) dL_law_1070 rfl ?_
  refine x_iconst (M := (M_law nm)) dL_law_1072 ?_
  refine x_iadd (M := (M_law nm)) dL_law_1073 ?_
  refine x_sald (M := (M_law nm)) dL_law_1074 (by decide) hx (vp_inD (by decide +kernel)) ?_
  refine x_top (M := (M_law nm)) (y := a1) ((congrArg xs (by decide +kernel : ((Int32.ofInt 1) + (Int32.ofInt 2)).toNatClampNeg = 3)).trans e3) ?_
  refine x_aload_n (M := (M_law nm)) dL_law_1075 rfl ?_
  refine x_iload (M := (M_law nm)) dL_law_1076 rfl ?_
  refine x_iconst (M := (M_law nm)) dL_law_1078 ?_
  refine x_iadd (M := (M_law nm)) dL_law_1079 ?_
  refine x_sald (M := (M_law nm)) dL_law_1080 (by decide) hx (vp_inD (by decide +kernel)) ?_
  refine x_top (M := (M_law nm)) (y := a2) ((congrArg xs (by decide +kernel : ((Int32.ofInt 1) + (Int32.ofInt 3)).toNatClampNeg = 4)).trans e4) ?_
  refine x_aload_n (M := (M_law nm)) dL_law_1081 rfl ?_
  refine x_iload (M := (M_law nm)) dL_law_1082 rfl ?_
  refine x_iconst (M := (M_law nm)) dL_law_1084 ?_
  refine x_iadd (M := (M_law nm)) dL_law_1085 ?_
  refine x_sald (M := (M_law nm)) dL_law_1086 (by decide) hx (vp_inD (by decide +kernel)) ?_
  refine x_top (M := (M_law nm)) (y := a3) ((congrArg xs (by decide +kernel : ((Int32.ofInt 1) + (Int32.ofInt 4)).toNatClampNeg = 5)).trans e5) ?_
  have o2956 := (f2937 277 _ (by decide) o2955)
  have o2958 := (f2937 280 _ (by decide) o2957)
  refine y_callVR (M := (M_law nm)) (M' := M_X12_overlay) rfl rfl dL_law_1087 m_X12_overlay t_3350 t_3351 t_3352 (q2954 hl c0 c1 c2 c3 c4 c5 o2956 o2958) rfl rfl o2956 rfl (Nat.le_of_ble_eq_true rfl) (Nat.le_of_ble_eq_true rfl) (Nat.le_of_ble_eq_true rfl) (Nat.le_of_ble_eq_true rfl) (fun h2959 f2960 w2961 => ?_)
  obtain ⟨o2962, -⟩ := w2961
  refine x_istore (M := (M_law nm)) dL_law_1090 (Nat.le_of_ble_eq_true rfl) rfl ?_
  refine x_aload_n (M := (M_law nm)) dL_law_1092 rfl ?_
  refine x_callVR (M := (M_law nm)) (M' := M_X12_thrown) rfl rfl dL_law_1093 m_X12_thrown t_2797 t_2798 t_2799 (q774 hl o2962) rfl rfl o2962 rfl (Nat.le_of_ble_eq_true rfl) (Nat.le_of_ble_eq_true rfl) (Nat.le_of_ble_eq_true rfl) (Nat.le_of_ble_eq_true rfl) ?_
  refine x_iload (M := (M_law nm)) dL_law_1096 rfl ?_
  refine x_icmp_eq (M := (M_law nm)) (tgt := 1103) dL_law_1098 (by decide) (fun _ => ?_) (fun q => absurd q (by decide +kernel))
  refine x_iload (M := (M_law nm)) dL_law_1103 rfl ?_
  refine x_if_ne (M := (M_law nm)) (tgt := 1120) dL_law_1105 (by decide) (fun _ => ?_) (fun q => absurd q (by decide +kernel))
  refine x_goto (M := (M_law nm)) (tgt := 2449) dL_law_1120 (by decide) ?_
  refine x_iinc (M := (M_law nm)) dL_law_2449 rfl (Nat.le_of_ble_eq_true rfl) rfl ?_
  refine x_lvs (M := (M_law nm)) (lv' := [some (.ref 0), some (.ref 32), some (.ref 277), some (.ref 359), some (.int (Int32.ofInt 7)), some (.int (Int32.ofInt 2)), some (.int (Int32.ofInt 0)), none]) (by rw [(by decide +kernel : (Int32.ofInt 1) + Int32.ofInt 6 = (Int32.ofInt 7))] <;> rfl) ?_
  refine x_goto (M := (M_law nm)) (tgt := 33) dL_law_2452 (by decide) ?_
  refine x_iload (M := (M_law nm)) dL_law_33 rfl ?_
  refine x_aload_n (M := (M_law nm)) dL_law_35 rfl ?_
  refine x_slen (M := (M_law nm)) dL_law_36 (by decide) hx ?_
  refine x_bipush (M := (M_law nm)) dL_law_37 ?_
  refine x_isub (M := (M_law nm)) dL_law_39 ?_
  refine x_icmp_gt (M := (M_law nm)) (tgt := 2455) dL_law_40 (by decide) (fun _ => ?_) (fun q => absurd q (by decide +kernel))
  refine x_iconst (M := (M_law nm)) dL_law_2455 ?_
  exact x_zret (M := (M_law nm)) dL_law_2456 rfl (by decide) rfl (Nat.le_of_ble_eq_true rfl) (Nat.le_of_ble_eq_true rfl)
set_option maxRecDepth 10000 in
theorem q2966 {l : Launch} {E : EE} (hl : l.stackTraces = false) {h : HP} {a3 : Int32} (c0 : ¬ (a3.toInt < 0)) (c1 : ¬ (a3.toInt < 32)) : en_C l E M_X11_slotNumbered 6 1 6 [.ref 32, .int a3] h (pT "java/lang/IndexOutOfBoundsException" [] h (fun _ => True)) := by
  refine en_mk m_X11_slotNumbered rfl hl (Nat.le_of_ble_eq_true rfl) ?_
  refine x_iload_n (M := M_X11_slotNumbered) dX11_slotNumbered_0 rfl ?_
  refine x_if_lt (M := M_X11_slotNumbered) (tgt := 10) dX11_slotNumbered_1 (by decide) (fun q => absurd ((bi_lt rfl (by decide +kernel)).mp q) (by omega : ¬ (a3.toInt < 0))) (fun _ => ?_)
  refine x_iload_n (M := M_X11_slotNumbered) dX11_slotNumbered_4 rfl ?_
  refine x_bipush (M := M_X11_slotNumbered) dX11_slotNumbered_5 ?_
  refine x_icmp_lt (M := M_X11_slotNumbered) (tgt := 18) dX11_slotNumbered_7 (by decide) (fun q => absurd ((bi_lt rfl (by decide +kernel)).mp q) (by omega : ¬ (a3.toInt < 32))) (fun _ => ?_)
  exact x_throw (M := M_X11_slotNumbered) (names := en_nm) rfl dX11_slotNumbered_10 dX11_slotNumbered_13 dX11_slotNumbered_14 dX11_slotNumbered_17 (by decide +kernel) en_nm_ok (Or.inl t_748) (Or.inl t_22) (at_X11_IndexOutOfBoundsException_139) (Nat.le_of_ble_eq_true rfl) (Nat.le_of_ble_eq_true rfl) (Nat.le_of_ble_eq_true rfl) (Nat.le_of_ble_eq_true rfl) (fun n9 => ⟨rfl, (fr_tr (fr_app (List.replicate n9 none)) (fun _ h => nomatch h) fr_rf), trivial⟩)
set_option maxRecDepth 10000 in
theorem q2970 {l : Launch} {E : EE} (hl : l.stackTraces = false) {h : HP} {a0 : Int32} {a1 : Int32} {a2 : Int32} {a3 : Int32} (c0 : ¬ (a1.toInt < 0)) (c1 : a1.toInt < 32) (c2 : ¬ (a2.toInt < 0)) (c3 : a2.toInt < 32) (c4 : ¬ (a3.toInt < 0)) (c5 : ¬ (a3.toInt < 32)) (o2963 : ob h 32 = some (.inr (14, [.ref 33, .ref 162, .ref 166, .int (0 : Int32), .int (0 : Int32), .int (0 : Int32), .ref 167, .ref 170, .ref 173, .ref 177, .ref 193, .ref 208, .ref 222, .ref 238, .ref 252, .ref 274, .ref 275, .ref 276, .int (0 : Int32)]))) (o2964 : ob h 33 = some (.inl (4, 32, .inr (.inr (.inr (.inr (shf 1 32))))))) : en_C l E M_X11_overlay 7 1 6 [.ref 32, .int a0, .int a1, .int a2, .int a3] h (pT "java/lang/IndexOutOfBoundsException" [] h (fun _ => True)) := by
  refine en_mk m_X11_overlay rfl hl (Nat.le_of_ble_eq_true rfl) ?_
  refine x_aload_n (M := M_X11_overlay) dX11_overlay_0 rfl ?_
  refine x_iload_n (M := M_X11_overlay) dX11_overlay_1 rfl ?_
  refine x_callVR (M := M_X11_overlay) (M' := M_X11_slotNumbered) rfl rfl dX11_overlay_2 m_X11_slotNumbered t_744 t_746 s_2 (q1503 hl c0 c1 o2963 o2964) rfl rfl o2963 rfl (Nat.le_of_ble_eq_true rfl) (Nat.le_of_ble_eq_true rfl) (Nat.le_of_ble_eq_true rfl) (Nat.le_of_ble_eq_true rfl) ?_
  refine x_astore (M := M_X11_overlay) dX11_overlay_5 (Nat.le_of_ble_eq_true rfl) rfl ?_
  refine x_aload_n (M := M_X11_overlay) dX11_overlay_7 rfl ?_
  refine x_iload_n (M := M_X11_overlay) dX11_overlay_8 rfl ?_
  refine x_callVR (M := M_X11_overlay) (M' := M_X11_slotNumbered) rfl rfl dX11_overlay_9 m_X11_slotNumbered t_744 t_746 s_2 (q2071 hl c2 c3 o2963 o2964) rfl rfl o2963 rfl (Nat.le_of_ble_eq_true rfl) (Nat.le_of_ble_eq_true rfl) (Nat.le_of_ble_eq_true rfl) (Nat.le_of_ble_eq_true rfl) ?_
  refine x_astore (M := M_X11_overlay) dX11_overlay_12 (Nat.le_of_ble_eq_true rfl) rfl ?_
  refine x_aload_n (M := M_X11_overlay) dX11_overlay_14 rfl ?_
  refine x_iload (M := M_X11_overlay) dX11_overlay_15 rfl ?_
  exact y_callVX (M := M_X11_overlay) (M' := M_X11_slotNumbered) rfl rfl dX11_overlay_17 m_X11_slotNumbered t_744 t_746 s_2 (q2966 hl c4 c5) rfl rfl o2963 rfl (Nat.le_of_ble_eq_true rfl) (Nat.le_of_ble_eq_true rfl) (Nat.le_of_ble_eq_true rfl) (Nat.le_of_ble_eq_true rfl) (fun h2967 f2968 w2969 => ⟨rfl, (fr_tr f2968 (fun _ h => nomatch h) fr_rf), trivial⟩)
set_option maxRecDepth 10000 in
theorem q2976 {l : Launch} {E : EE} (hl : l.stackTraces = false) {h : HP} {a0 : Int32} {a1 : Int32} {a2 : Int32} {a3 : Int32} (c0 : ¬ (a1.toInt < 0)) (c1 : a1.toInt < 32) (c2 : ¬ (a2.toInt < 0)) (c3 : a2.toInt < 32) (c4 : ¬ (a3.toInt < 0)) (c5 : ¬ (a3.toInt < 32)) (o2971 : ob h 32 = some (.inr (14, [.ref 33, .ref 162, .ref 166, .int (0 : Int32), .int (0 : Int32), .int (0 : Int32), .ref 167, .ref 170, .ref 173, .ref 177, .ref 193, .ref 208, .ref 222, .ref 238, .ref 252, .ref 274, .ref 275, .ref 276, .int (0 : Int32)]))) (o2972 : ob h 33 = some (.inl (4, 32, .inr (.inr (.inr (.inr (shf 1 32))))))) : en_C l E M_L_overlay 8 1 6 [.ref 32, .int a0, .int a1, .int a2, .int a3, .ref 359] h (pF (some (.int (Int32.ofInt 1))) [] h (fun _ => True)) := by
  refine en_mkW m_L_overlay rfl hl (Nat.le_of_ble_eq_true rfl) ?_
  refine x_aload (M := M_L_overlay) dL_overlay_0 rfl ?_
  refine x_iconst (M := M_L_overlay) dL_overlay_2 ?_
  refine x_aload_n (M := M_L_overlay) dL_overlay_3 rfl ?_
  refine x_iload_n (M := M_L_overlay) dL_overlay_4 rfl ?_
  refine x_iload_n (M := M_L_overlay) dL_overlay_5 rfl ?_
  refine x_iload_n (M := M_L_overlay) dL_overlay_6 rfl ?_
  refine x_iload (M := M_L_overlay) dL_overlay_7 rfl ?_
  refine y_callVHX (M := M_L_overlay) (M' := M_X11_overlay) (i9 := 6) (nx := 19) rfl dL_overlay_9 m_X11_overlay t_1373 t_1374 t_1375 o2971 rfl (q2970 hl c0 c1 c2 c3 c4 c5 o2971 o2972) rfl rfl (Nat.le_of_ble_eq_true rfl) (Nat.le_of_ble_eq_true rfl) (Nat.le_of_ble_eq_true rfl) (Nat.le_of_ble_eq_true rfl) (en_hdm (k0 := 6) [] [(0, 14, 21, 13), (0, 14, 25, 19), (0, 14, 29, 63)] rfl (fun _ h => nomatch h) (by decide +kernel) (by decide) t_739 n_750 dL_overlay_17) (by decide) rfl (fun h2973 f2974 w2975 => ?_)
  refine x_iconst (M := M_L_overlay) dL_overlay_19 ?_
  exact x_iret (M := M_L_overlay) dL_overlay_20 rfl ⟨rfl, (fr_tr f2974 (fun _ h => nomatch h) fr_rf), trivial⟩ (Nat.le_of_ble_eq_true rfl) (Nat.le_of_ble_eq_true rfl)
set_option maxRecDepth 10000 in
theorem q2986 {l : Launch} {E : EE} (hl : l.stackTraces = false) {h : HP} {a3 : Int32} (c0 : ¬ (a3.toInt < 0)) (c1 : ¬ (a3.toInt < 32)) : en_C l E M_X12_isSlot 0 0 0 [.int a3] h (pR (some (.int (Int32.ofInt 0))) h) := by
  refine en_mk m_X12_isSlot rfl hl (Nat.le_of_ble_eq_true rfl) ?_
  refine x_iload_n (M := M_X12_isSlot) dX12_isSlot_0 rfl ?_
  refine x_if_lt (M := M_X12_isSlot) (tgt := 14) dX12_isSlot_1 (by decide) (fun q => absurd ((bi_lt rfl (by decide +kernel)).mp q) (by omega : ¬ (a3.toInt < 0))) (fun _ => ?_)
  refine x_iload_n (M := M_X12_isSlot) dX12_isSlot_4 rfl ?_
  refine x_bipush (M := M_X12_isSlot) dX12_isSlot_5 ?_
  refine x_icmp_ge (M := M_X12_isSlot) (tgt := 14) dX12_isSlot_7 (by decide) (fun _ => ?_) (fun q => absurd ((bi_le (by decide +kernel) rfl).mpr (by omega : (32 ≤ a3.toInt : Prop))) q)
  refine x_iconst (M := M_X12_isSlot) dX12_isSlot_14 ?_
  exact x_zret (M := M_X12_isSlot) dX12_isSlot_15 rfl (by decide) ⟨rfl, rfl⟩ (Nat.le_of_ble_eq_true rfl) (Nat.le_of_ble_eq_true rfl)
set_option maxRecDepth 10000 in
theorem q2991 {l : Launch} {E : EE} (hl : l.stackTraces = false) {h : HP} {a0 : Int32} {a1 : Int32} {a2 : Int32} {a3 : Int32} {dg : Int32} (c0 : ¬ (a1.toInt < 0)) (c1 : a1.toInt < 32) (c2 : ¬ (a2.toInt < 0)) (c3 : a2.toInt < 32) (c4 : ¬ (a3.toInt < 0)) (c5 : ¬ (a3.toInt < 32)) (o2982 : ob h 277 = some (.inr (15, (RB dg)))) : en_C l E M_X12_overlay 1 0 0 [.ref 277, .int a0, .int a1, .int a2, .int a3] h (pF (some (.int (Int32.ofInt 0))) [277] h (fun h' => ob h' 277 = some (.inr (15, ((RB dg).set 0 (.int (Int32.ofInt 1))))) ∧ True)) := by
  refine en_mk m_X12_overlay rfl hl (Nat.le_of_ble_eq_true rfl) ?_
  refine x_aload_n (M := M_X12_overlay) dX12_overlay_0 rfl ?_
  refine x_iconst (M := M_X12_overlay) dX12_overlay_1 ?_
  refine y_put (M := M_X12_overlay) (ci := 15) (C := RX12) (T := TX12) (N := 135) (ty := tyX12) cl15 dX12_overlay_2 o2982 0 (by decide) t_2391 (Or.inl rfl) (Nat.le_of_ble_eq_true rfl) rfl (fun h2983 w2984 f2985 => ?_)
  refine x_aload_n (M := M_X12_overlay) dX12_overlay_5 rfl ?_
  refine x_iload_n (M := M_X12_overlay) dX12_overlay_6 rfl ?_
  refine x_callSR (M := M_X12_overlay) (M' := M_X12_isSlot) rfl rfl dX12_overlay_7 m_X12_isSlot t_2841 t_2842 (q1536 hl c0 c1) rfl rfl (Nat.le_of_ble_eq_true rfl) (Nat.le_of_ble_eq_true rfl) (Nat.le_of_ble_eq_true rfl) (Nat.le_of_ble_eq_true rfl) ?_
  refine x_if_eq (M := M_X12_overlay) (tgt := 28) dX12_overlay_10 (by decide) (fun q => absurd q (by decide +kernel)) (fun _ => ?_)
  refine x_iload_n (M := M_X12_overlay) dX12_overlay_13 rfl ?_
  refine x_callSR (M := M_X12_overlay) (M' := M_X12_isSlot) rfl rfl dX12_overlay_14 m_X12_isSlot t_2841 t_2842 (q2106 hl c2 c3) rfl rfl (Nat.le_of_ble_eq_true rfl) (Nat.le_of_ble_eq_true rfl) (Nat.le_of_ble_eq_true rfl) (Nat.le_of_ble_eq_true rfl) ?_
  refine x_if_eq (M := M_X12_overlay) (tgt := 28) dX12_overlay_17 (by decide) (fun q => absurd q (by decide +kernel)) (fun _ => ?_)
  refine x_iload (M := M_X12_overlay) dX12_overlay_20 rfl ?_
  refine x_callSR (M := M_X12_overlay) (M' := M_X12_isSlot) rfl rfl dX12_overlay_22 m_X12_isSlot t_2841 t_2842 (q2986 hl c4 c5) rfl rfl (Nat.le_of_ble_eq_true rfl) (Nat.le_of_ble_eq_true rfl) (Nat.le_of_ble_eq_true rfl) (Nat.le_of_ble_eq_true rfl) ?_
  refine x_if_ne (M := M_X12_overlay) (tgt := 32) dX12_overlay_25 (by decide) (fun q => absurd q (by decide +kernel)) (fun _ => ?_)
  refine x_iconst (M := M_X12_overlay) dX12_overlay_28 ?_
  refine x_goto (M := M_X12_overlay) (tgt := 33) dX12_overlay_29 (by decide) ?_
  refine x_iconst (M := M_X12_overlay) dX12_overlay_33 ?_
  refine y_callVR (M := M_X12_overlay) (M' := M_X12_fails) rfl rfl dX12_overlay_34 m_X12_fails t_2805 t_2807 s_157 (q22 hl w2984) rfl rfl w2984 rfl (Nat.le_of_ble_eq_true rfl) (Nat.le_of_ble_eq_true rfl) (Nat.le_of_ble_eq_true rfl) (Nat.le_of_ble_eq_true rfl) (fun h2987 f2988 w2989 => ?_)
  obtain ⟨o2990, -⟩ := w2989
  refine x_if_ne (M := M_X12_overlay) (tgt := 69) dX12_overlay_37 (by decide) (fun _ => ?_) (fun q => absurd q (by decide +kernel))
  refine x_iconst (M := M_X12_overlay) dX12_overlay_69 ?_
  exact x_iret (M := M_X12_overlay) dX12_overlay_70 rfl ⟨rfl, (fr_tr f2988 (by decide) (fr_tr f2985 (by decide) fr_rf)), ⟨o2990, trivial⟩⟩ (Nat.le_of_ble_eq_true rfl) (Nat.le_of_ble_eq_true rfl)
set_option maxRecDepth 10000 in
theorem lc14_4 {l : Launch} {E : EE} (hl : l.stackTraces = false) (nm : String) {xs : Nat → Int32} (hx : E.2.2.2.2 0 = some (7, xs)) {h : HP} {a0 : Int32} {a1 : Int32} {a2 : Int32} {a3 : Int32} {dg : Int32} (e2 : xs 2 = a0) (e3 : xs 3 = a1) (e4 : xs 4 = a2) (e5 : xs 5 = a3) (c0 : ¬ (a1.toInt < 0)) (c1 : a1.toInt < 32) (c2 : ¬ (a2.toInt < 0)) (c3 : a2.toInt < 32) (c4 : ¬ (a3.toInt < 0)) (c5 : ¬ (a3.toInt < 32)) (o2977 : ob h 32 = some (.inr (14, [.ref 33, .ref 162, .ref 166, .int (0 : Int32), .int (0 : Int32), .int (0 : Int32), .ref 167, .ref 170, .ref 173, .ref 177, .ref 193, .ref 208, .ref 222, .ref 238, .ref 252, .ref 274, .ref 275, .ref 276, .int (0 : Int32)]))) (o2978 : ob h 33 = some (.inl (4, 32, .inr (.inr (.inr (.inr (shf 1 32))))))) (o2992 : ob h 277 = some (.inr (15, (RB dg)))) : XX l E (M_law nm) 1312 342628 8074320 (fun o _ => o = .inl (some (.int 1))) 1031 [some (.ref 0), some (.ref 32), some (.ref 277), some (.ref 359), some (.int (Int32.ofInt 1)), none, none, none] [] h 328 2463747 := by
  refine x_aload_n (M := (M_law nm)) dL_law_1031 rfl ?_
  refine x_aload_n (M := (M_law nm)) dL_law_1032 rfl ?_
  refine x_iload (M := (M_law nm)) dL_law_1033 rfl ?_
  refine x_iconst (M := (M_law nm)) dL_law_1035 ?_
  refine x_iadd (M := (M_law nm)) dL_law_1036 ?_
  refine x_sald (M := (M_law nm)) dL_law_1037 (by decide) hx (vp_inD (by decide +kernel)) ?_
  refine x_top (M := (M_law nm)) (y := a0) ((congrArg xs (by decide +kernel : ((Int32.ofInt 1) + (Int32.ofInt 1)).toNatClampNeg = 2)).trans e2) ?_
  refine x_aload_n (M := (M_law nm)) dL_law_1038 rfl ?_
  refine x_iload (M := (M_law nm)) dL_law_1039 rfl ?_
  refine x_iconst (M := (M_law nm)) dL_law_1041 ?_
  refine x_iadd (M := (M_law nm)) dL_law_1042 ?_
  refine x_sald (M := (M_law nm)) dL_law_1043 (by decide) hx (vp_inD (by decide +kernel)) ?_
  refine x_top (M := (M_law nm)) (y := a1) ((congrArg xs (by decide +kernel : ((Int32.ofInt 1) + (Int32.ofInt 2)).toNatClampNeg = 3)).trans e3) ?_
  refine x_aload_n (M := (M_law nm)) dL_law_1044 rfl ?_
  refine x_iload (M := (M_law nm)) dL_law_1045 rfl ?_
  refine x_iconst (M := (M_law nm)) dL_law_1047 ?_
  refine x_iadd (M := (M_law nm)) dL_law_1048 ?_
  refine x_sald (M := (M_law nm)) dL_law_1049 (by decide) hx (vp_inD (by decide +kernel)) ?_
  refine x_top (M := (M_law nm)) (y := a2) ((congrArg xs (by decide +kernel : ((Int32.ofInt 1) + (Int32.ofInt 3)).toNatClampNeg = 4)).trans e4) ?_
  refine x_aload_n (M := (M_law nm)) dL_law_1050 rfl ?_
  refine x_iload (M := (M_law nm)) dL_law_1051 rfl ?_
  refine x_iconst (M := (M_law nm)) dL_law_1053 ?_
  refine x_iadd (M := (M_law nm)) dL_law_1054 ?_
  refine x_sald (M := (M_law nm)) dL_law_1055 (by decide) hx (vp_inD (by decide +kernel)) ?_
  refine x_top (M := (M_law nm)) (y := a3) ((congrArg xs (by decide +kernel : ((Int32.ofInt 1) + (Int32.ofInt 4)).toNatClampNeg = 5)).trans e5) ?_
  refine x_aload_n (M := (M_law nm)) dL_law_1056 rfl ?_
  refine y_callSW (M := (M_law nm)) (M' := M_L_overlay) rfl rfl dL_law_1057 m_L_overlay t_1369 t_1370 (q2976 hl c0 c1 c2 c3 c4 c5 o2977 o2978) rfl rfl (Nat.le_of_ble_eq_true rfl) (Nat.le_of_ble_eq_true rfl) (Nat.le_of_ble_eq_true rfl) (Nat.le_of_ble_eq_true rfl) (fun h2979 f2980 w2981 => ?_)
  refine x_istore (M := (M_law nm)) dL_law_1060 (Nat.le_of_ble_eq_true rfl) rfl ?_
  refine x_aload_n (M := (M_law nm)) dL_law_1062 rfl ?_
  refine x_aload_n (M := (M_law nm)) dL_law_1063 rfl ?_
  refine x_iload (M := (M_law nm)) dL_law_1064 rfl ?_
  refine x_iconst (M := (M_law nm)) dL_law_1066 ?_
  refine x_iadd (M := (M_law nm)) dL_law_1067 ?_
  refine x_sald (M := (M_law nm)) dL_law_1068 (by decide) hx (vp_inD (by decide +kernel)) ?_
  refine x_top (M := (M_law nm)) (y := a0) ((congrArg xs (by decide +kernel : ((Int32.ofInt 1) + (Int32.ofInt 1)).toNatClampNeg = 2)).trans e2) ?_
  refine x_aload_n (M := (M_law nm)) dL_law_1069 rfl ?_
  refine x_iload (M := (M_law nm)) dL_law_1070 rfl ?_
  refine x_iconst (M := (M_law nm)) dL_law_1072 ?_
  refine x_iadd (M := (M_law nm)) dL_law_1073 ?_
  refine x_sald (M := (M_law nm)) dL_law_1074 (by decide) hx (vp_inD (by decide +kernel)) ?_
  refine x_top (M := (M_law nm)) (y := a1) ((congrArg xs (by decide +kernel : ((Int32.ofInt 1) + (Int32.ofInt 2)).toNatClampNeg = 3)).trans e3) ?_
  refine x_aload_n (M := (M_law nm)) dL_law_1075 rfl ?_
  refine x_iload (M := (M_law nm)) dL_law_1076 rfl ?_
  refine x_iconst (M := (M_law nm)) dL_law_1078 ?_
  refine x_iadd (M := (M_law nm)) dL_law_1079 ?_
  refine x_sald (M := (M_law nm)) dL_law_1080 (by decide) hx (vp_inD (by decide +kernel)) ?_
  refine x_top (M := (M_law nm)) (y := a2) ((congrArg xs (by decide +kernel : ((Int32.ofInt 1) + (Int32.ofInt 3)).toNatClampNeg = 4)).trans e4) ?_
  refine x_aload_n (M := (M_law nm)) dL_law_1081 rfl ?_
  refine x_iload (M := (M_law nm)) dL_law_1082 rfl ?_
  refine x_iconst (M := (M_law nm)) dL_law_1084 ?_
  refine x_iadd (M := (M_law nm)) dL_law_1085 ?_
  refine x_sald (M := (M_law nm)) dL_law_1086 (by decide) hx (vp_inD (by decide +kernel)) ?_
  refine x_top (M := (M_law nm)) (y := a3) ((congrArg xs (by decide +kernel : ((Int32.ofInt 1) + (Int32.ofInt 4)).toNatClampNeg = 5)).trans e5) ?_
  have o2993 := (f2980 277 _ (by decide) o2992)
  refine y_callVR (M := (M_law nm)) (M' := M_X12_overlay) rfl rfl dL_law_1087 m_X12_overlay t_3350 t_3351 t_3352 (q2991 hl c0 c1 c2 c3 c4 c5 o2993) rfl rfl o2993 rfl (Nat.le_of_ble_eq_true rfl) (Nat.le_of_ble_eq_true rfl) (Nat.le_of_ble_eq_true rfl) (Nat.le_of_ble_eq_true rfl) (fun h2994 f2995 w2996 => ?_)
  obtain ⟨o2997, -⟩ := w2996
  refine x_istore (M := (M_law nm)) dL_law_1090 (Nat.le_of_ble_eq_true rfl) rfl ?_
  refine x_aload_n (M := (M_law nm)) dL_law_1092 rfl ?_
  refine x_callVR (M := (M_law nm)) (M' := M_X12_thrown) rfl rfl dL_law_1093 m_X12_thrown t_2797 t_2798 t_2799 (q35 hl o2997) rfl rfl o2997 rfl (Nat.le_of_ble_eq_true rfl) (Nat.le_of_ble_eq_true rfl) (Nat.le_of_ble_eq_true rfl) (Nat.le_of_ble_eq_true rfl) ?_
  refine x_iload (M := (M_law nm)) dL_law_1096 rfl ?_
  refine x_icmp_eq (M := (M_law nm)) (tgt := 1103) dL_law_1098 (by decide) (fun _ => ?_) (fun q => absurd q (by decide +kernel))
  refine x_iload (M := (M_law nm)) dL_law_1103 rfl ?_
  refine x_if_ne (M := (M_law nm)) (tgt := 1120) dL_law_1105 (by decide) (fun _ => ?_) (fun q => absurd q (by decide +kernel))
  refine x_goto (M := (M_law nm)) (tgt := 2449) dL_law_1120 (by decide) ?_
  refine x_iinc (M := (M_law nm)) dL_law_2449 rfl (Nat.le_of_ble_eq_true rfl) rfl ?_
  refine x_lvs (M := (M_law nm)) (lv' := [some (.ref 0), some (.ref 32), some (.ref 277), some (.ref 359), some (.int (Int32.ofInt 7)), some (.int (Int32.ofInt 1)), some (.int (Int32.ofInt 0)), none]) (by rw [(by decide +kernel : (Int32.ofInt 1) + Int32.ofInt 6 = (Int32.ofInt 7))] <;> rfl) ?_
  refine x_goto (M := (M_law nm)) (tgt := 33) dL_law_2452 (by decide) ?_
  refine x_iload (M := (M_law nm)) dL_law_33 rfl ?_
  refine x_aload_n (M := (M_law nm)) dL_law_35 rfl ?_
  refine x_slen (M := (M_law nm)) dL_law_36 (by decide) hx ?_
  refine x_bipush (M := (M_law nm)) dL_law_37 ?_
  refine x_isub (M := (M_law nm)) dL_law_39 ?_
  refine x_icmp_gt (M := (M_law nm)) (tgt := 2455) dL_law_40 (by decide) (fun _ => ?_) (fun q => absurd q (by decide +kernel))
  refine x_iconst (M := (M_law nm)) dL_law_2455 ?_
  exact x_zret (M := (M_law nm)) dL_law_2456 rfl (by decide) rfl (Nat.le_of_ble_eq_true rfl) (Nat.le_of_ble_eq_true rfl)
set_option maxRecDepth 10000 in
theorem q3003 {l : Launch} {E : EE} (hl : l.stackTraces = false) {h : HP} {a0 : Int32} {a1 : Int32} {a2 : Int32} {a3 : Int32} (c0 : ¬ (a1.toInt < 0)) (c1 : a1.toInt < 32) (c2 : ¬ (a2.toInt < 0)) (c3 : ¬ (a2.toInt < 32)) (o2998 : ob h 32 = some (.inr (14, [.ref 33, .ref 162, .ref 166, .int (0 : Int32), .int (0 : Int32), .int (0 : Int32), .ref 167, .ref 170, .ref 173, .ref 177, .ref 193, .ref 208, .ref 222, .ref 238, .ref 252, .ref 274, .ref 275, .ref 276, .int (0 : Int32)]))) (o2999 : ob h 33 = some (.inl (4, 32, .inr (.inr (.inr (.inr (shf 1 32))))))) : en_C l E M_X11_overlay 7 1 6 [.ref 32, .int a0, .int a1, .int a2, .int a3] h (pT "java/lang/IndexOutOfBoundsException" [] h (fun _ => True)) := by
  refine en_mk m_X11_overlay rfl hl (Nat.le_of_ble_eq_true rfl) ?_
  refine x_aload_n (M := M_X11_overlay) dX11_overlay_0 rfl ?_
  refine x_iload_n (M := M_X11_overlay) dX11_overlay_1 rfl ?_
  refine x_callVR (M := M_X11_overlay) (M' := M_X11_slotNumbered) rfl rfl dX11_overlay_2 m_X11_slotNumbered t_744 t_746 s_2 (q1503 hl c0 c1 o2998 o2999) rfl rfl o2998 rfl (Nat.le_of_ble_eq_true rfl) (Nat.le_of_ble_eq_true rfl) (Nat.le_of_ble_eq_true rfl) (Nat.le_of_ble_eq_true rfl) ?_
  refine x_astore (M := M_X11_overlay) dX11_overlay_5 (Nat.le_of_ble_eq_true rfl) rfl ?_
  refine x_aload_n (M := M_X11_overlay) dX11_overlay_7 rfl ?_
  refine x_iload_n (M := M_X11_overlay) dX11_overlay_8 rfl ?_
  exact y_callVX (M := M_X11_overlay) (M' := M_X11_slotNumbered) rfl rfl dX11_overlay_9 m_X11_slotNumbered t_744 t_746 s_2 (q2132 hl c2 c3) rfl rfl o2998 rfl (Nat.le_of_ble_eq_true rfl) (Nat.le_of_ble_eq_true rfl) (Nat.le_of_ble_eq_true rfl) (Nat.le_of_ble_eq_true rfl) (fun h3000 f3001 w3002 => ⟨rfl, (fr_tr f3001 (fun _ h => nomatch h) fr_rf), trivial⟩)
set_option maxRecDepth 10000 in
theorem q3009 {l : Launch} {E : EE} (hl : l.stackTraces = false) {h : HP} {a0 : Int32} {a1 : Int32} {a2 : Int32} {a3 : Int32} (c0 : ¬ (a1.toInt < 0)) (c1 : a1.toInt < 32) (c2 : ¬ (a2.toInt < 0)) (c3 : ¬ (a2.toInt < 32)) (o3004 : ob h 32 = some (.inr (14, [.ref 33, .ref 162, .ref 166, .int (0 : Int32), .int (0 : Int32), .int (0 : Int32), .ref 167, .ref 170, .ref 173, .ref 177, .ref 193, .ref 208, .ref 222, .ref 238, .ref 252, .ref 274, .ref 275, .ref 276, .int (0 : Int32)]))) (o3005 : ob h 33 = some (.inl (4, 32, .inr (.inr (.inr (.inr (shf 1 32))))))) : en_C l E M_L_overlay 8 1 6 [.ref 32, .int a0, .int a1, .int a2, .int a3, .ref 359] h (pF (some (.int (Int32.ofInt 1))) [] h (fun _ => True)) := by
  refine en_mkW m_L_overlay rfl hl (Nat.le_of_ble_eq_true rfl) ?_
  refine x_aload (M := M_L_overlay) dL_overlay_0 rfl ?_
  refine x_iconst (M := M_L_overlay) dL_overlay_2 ?_
  refine x_aload_n (M := M_L_overlay) dL_overlay_3 rfl ?_
  refine x_iload_n (M := M_L_overlay) dL_overlay_4 rfl ?_
  refine x_iload_n (M := M_L_overlay) dL_overlay_5 rfl ?_
  refine x_iload_n (M := M_L_overlay) dL_overlay_6 rfl ?_
  refine x_iload (M := M_L_overlay) dL_overlay_7 rfl ?_
  refine y_callVHX (M := M_L_overlay) (M' := M_X11_overlay) (i9 := 6) (nx := 19) rfl dL_overlay_9 m_X11_overlay t_1373 t_1374 t_1375 o3004 rfl (q3003 hl c0 c1 c2 c3 o3004 o3005) rfl rfl (Nat.le_of_ble_eq_true rfl) (Nat.le_of_ble_eq_true rfl) (Nat.le_of_ble_eq_true rfl) (Nat.le_of_ble_eq_true rfl) (en_hdm (k0 := 6) [] [(0, 14, 21, 13), (0, 14, 25, 19), (0, 14, 29, 63)] rfl (fun _ h => nomatch h) (by decide +kernel) (by decide) t_739 n_750 dL_overlay_17) (by decide) rfl (fun h3006 f3007 w3008 => ?_)
  refine x_iconst (M := M_L_overlay) dL_overlay_19 ?_
  exact x_iret (M := M_L_overlay) dL_overlay_20 rfl ⟨rfl, (fr_tr f3007 (fun _ h => nomatch h) fr_rf), trivial⟩ (Nat.le_of_ble_eq_true rfl) (Nat.le_of_ble_eq_true rfl)
set_option maxRecDepth 10000 in
theorem q3023 {l : Launch} {E : EE} (hl : l.stackTraces = false) {h : HP} {a0 : Int32} {a1 : Int32} {a2 : Int32} {a3 : Int32} {dg : Int32} (c0 : ¬ (a1.toInt < 0)) (c1 : a1.toInt < 32) (c2 : ¬ (a2.toInt < 0)) (c3 : ¬ (a2.toInt < 32)) (o3015 : ob h 277 = some (.inr (15, (RB dg)))) : en_C l E M_X12_overlay 1 0 0 [.ref 277, .int a0, .int a1, .int a2, .int a3] h (pF (some (.int (Int32.ofInt 0))) [277] h (fun h' => ob h' 277 = some (.inr (15, ((RB dg).set 0 (.int (Int32.ofInt 1))))) ∧ True)) := by
  refine en_mk m_X12_overlay rfl hl (Nat.le_of_ble_eq_true rfl) ?_
  refine x_aload_n (M := M_X12_overlay) dX12_overlay_0 rfl ?_
  refine x_iconst (M := M_X12_overlay) dX12_overlay_1 ?_
  refine y_put (M := M_X12_overlay) (ci := 15) (C := RX12) (T := TX12) (N := 135) (ty := tyX12) cl15 dX12_overlay_2 o3015 0 (by decide) t_2391 (Or.inl rfl) (Nat.le_of_ble_eq_true rfl) rfl (fun h3016 w3017 f3018 => ?_)
  refine x_aload_n (M := M_X12_overlay) dX12_overlay_5 rfl ?_
  refine x_iload_n (M := M_X12_overlay) dX12_overlay_6 rfl ?_
  refine x_callSR (M := M_X12_overlay) (M' := M_X12_isSlot) rfl rfl dX12_overlay_7 m_X12_isSlot t_2841 t_2842 (q1536 hl c0 c1) rfl rfl (Nat.le_of_ble_eq_true rfl) (Nat.le_of_ble_eq_true rfl) (Nat.le_of_ble_eq_true rfl) (Nat.le_of_ble_eq_true rfl) ?_
  refine x_if_eq (M := M_X12_overlay) (tgt := 28) dX12_overlay_10 (by decide) (fun q => absurd q (by decide +kernel)) (fun _ => ?_)
  refine x_iload_n (M := M_X12_overlay) dX12_overlay_13 rfl ?_
  refine x_callSR (M := M_X12_overlay) (M' := M_X12_isSlot) rfl rfl dX12_overlay_14 m_X12_isSlot t_2841 t_2842 (q2158 hl c2 c3) rfl rfl (Nat.le_of_ble_eq_true rfl) (Nat.le_of_ble_eq_true rfl) (Nat.le_of_ble_eq_true rfl) (Nat.le_of_ble_eq_true rfl) ?_
  refine x_if_eq (M := M_X12_overlay) (tgt := 28) dX12_overlay_17 (by decide) (fun _ => ?_) (fun q => absurd q (by decide +kernel))
  refine x_iconst (M := M_X12_overlay) dX12_overlay_28 ?_
  refine x_goto (M := M_X12_overlay) (tgt := 33) dX12_overlay_29 (by decide) ?_
  refine x_iconst (M := M_X12_overlay) dX12_overlay_33 ?_
  refine y_callVR (M := M_X12_overlay) (M' := M_X12_fails) rfl rfl dX12_overlay_34 m_X12_fails t_2805 t_2807 s_157 (q22 hl w3017) rfl rfl w3017 rfl (Nat.le_of_ble_eq_true rfl) (Nat.le_of_ble_eq_true rfl) (Nat.le_of_ble_eq_true rfl) (Nat.le_of_ble_eq_true rfl) (fun h3019 f3020 w3021 => ?_)
  obtain ⟨o3022, -⟩ := w3021
  refine x_if_ne (M := M_X12_overlay) (tgt := 69) dX12_overlay_37 (by decide) (fun _ => ?_) (fun q => absurd q (by decide +kernel))
  refine x_iconst (M := M_X12_overlay) dX12_overlay_69 ?_
  exact x_iret (M := M_X12_overlay) dX12_overlay_70 rfl ⟨rfl, (fr_tr f3020 (by decide) (fr_tr f3018 (by decide) fr_rf)), ⟨o3022, trivial⟩⟩ (Nat.le_of_ble_eq_true rfl) (Nat.le_of_ble_eq_true rfl)
set_option maxRecDepth 10000 in
theorem lc14_5 {l : Launch} {E : EE} (hl : l.stackTraces = false) (nm : String) {xs : Nat → Int32} (hx : E.2.2.2.2 0 = some (7, xs)) {h : HP} {a0 : Int32} {a1 : Int32} {a2 : Int32} {a3 : Int32} {dg : Int32} (e2 : xs 2 = a0) (e3 : xs 3 = a1) (e4 : xs 4 = a2) (e5 : xs 5 = a3) (c0 : ¬ (a1.toInt < 0)) (c1 : a1.toInt < 32) (c2 : ¬ (a2.toInt < 0)) (c3 : ¬ (a2.toInt < 32)) (o3010 : ob h 32 = some (.inr (14, [.ref 33, .ref 162, .ref 166, .int (0 : Int32), .int (0 : Int32), .int (0 : Int32), .ref 167, .ref 170, .ref 173, .ref 177, .ref 193, .ref 208, .ref 222, .ref 238, .ref 252, .ref 274, .ref 275, .ref 276, .int (0 : Int32)]))) (o3011 : ob h 33 = some (.inl (4, 32, .inr (.inr (.inr (.inr (shf 1 32))))))) (o3024 : ob h 277 = some (.inr (15, (RB dg)))) : XX l E (M_law nm) 1312 342628 8074320 (fun o _ => o = .inl (some (.int 1))) 1031 [some (.ref 0), some (.ref 32), some (.ref 277), some (.ref 359), some (.int (Int32.ofInt 1)), none, none, none] [] h 328 2463747 := by
  refine x_aload_n (M := (M_law nm)) dL_law_1031 rfl ?_
  refine x_aload_n (M := (M_law nm)) dL_law_1032 rfl ?_
  refine x_iload (M := (M_law nm)) dL_law_1033 rfl ?_
  refine x_iconst (M := (M_law nm)) dL_law_1035 ?_
  refine x_iadd (M := (M_law nm)) dL_law_1036 ?_
  refine x_sald (M := (M_law nm)) dL_law_1037 (by decide) hx (vp_inD (by decide +kernel)) ?_
  refine x_top (M := (M_law nm)) (y := a0) ((congrArg xs (by decide +kernel : ((Int32.ofInt 1) + (Int32.ofInt 1)).toNatClampNeg = 2)).trans e2) ?_
  refine x_aload_n (M := (M_law nm)) dL_law_1038 rfl ?_
  refine x_iload (M := (M_law nm)) dL_law_1039 rfl ?_
  refine x_iconst (M := (M_law nm)) dL_law_1041 ?_
  refine x_iadd (M := (M_law nm)) dL_law_1042 ?_
  refine x_sald (M := (M_law nm)) dL_law_1043 (by decide) hx (vp_inD (by decide +kernel)) ?_
  refine x_top (M := (M_law nm)) (y := a1) ((congrArg xs (by decide +kernel : ((Int32.ofInt 1) + (Int32.ofInt 2)).toNatClampNeg = 3)).trans e3) ?_
  refine x_aload_n (M := (M_law nm)) dL_law_1044 rfl ?_
  refine x_iload (M := (M_law nm)) dL_law_1045 rfl ?_
  refine x_iconst (M := (M_law nm)) dL_law_1047 ?_
  refine x_iadd (M := (M_law nm)) dL_law_1048 ?_
  refine x_sald (M := (M_law nm)) dL_law_1049 (by decide) hx (vp_inD (by decide +kernel)) ?_
  refine x_top (M := (M_law nm)) (y := a2) ((congrArg xs (by decide +kernel : ((Int32.ofInt 1) + (Int32.ofInt 3)).toNatClampNeg = 4)).trans e4) ?_
  refine x_aload_n (M := (M_law nm)) dL_law_1050 rfl ?_
  refine x_iload (M := (M_law nm)) dL_law_1051 rfl ?_
  refine x_iconst (M := (M_law nm)) dL_law_1053 ?_
  refine x_iadd (M := (M_law nm)) dL_law_1054 ?_
  refine x_sald (M := (M_law nm)) dL_law_1055 (by decide) hx (vp_inD (by decide +kernel)) ?_
  refine x_top (M := (M_law nm)) (y := a3) ((congrArg xs (by decide +kernel : ((Int32.ofInt 1) + (Int32.ofInt 4)).toNatClampNeg = 5)).trans e5) ?_
  refine x_aload_n (M := (M_law nm)) dL_law_1056 rfl ?_
  refine y_callSW (M := (M_law nm)) (M' := M_L_overlay) rfl rfl dL_law_1057 m_L_overlay t_1369 t_1370 (q3009 hl c0 c1 c2 c3 o3010 o3011) rfl rfl (Nat.le_of_ble_eq_true rfl) (Nat.le_of_ble_eq_true rfl) (Nat.le_of_ble_eq_true rfl) (Nat.le_of_ble_eq_true rfl) (fun h3012 f3013 w3014 => ?_)
  refine x_istore (M := (M_law nm)) dL_law_1060 (Nat.le_of_ble_eq_true rfl) rfl ?_
  refine x_aload_n (M := (M_law nm)) dL_law_1062 rfl ?_
  refine x_aload_n (M := (M_law nm)) dL_law_1063 rfl ?_
  refine x_iload (M := (M_law nm)) dL_law_1064 rfl ?_
  refine x_iconst (M := (M_law nm)) dL_law_1066 ?_
  refine x_iadd (M := (M_law nm)) dL_law_1067 ?_
  refine x_sald (M := (M_law nm)) dL_law_1068 (by decide) hx (vp_inD (by decide +kernel)) ?_
  refine x_top (M := (M_law nm)) (y := a0) ((congrArg xs (by decide +kernel : ((Int32.ofInt 1) + (Int32.ofInt 1)).toNatClampNeg = 2)).trans e2) ?_
  refine x_aload_n (M := (M_law nm)) dL_law_1069 rfl ?_
  refine x_iload (M := (M_law nm)) dL_law_1070 rfl ?_
  refine x_iconst (M := (M_law nm)) dL_law_1072 ?_
  refine x_iadd (M := (M_law nm)) dL_law_1073 ?_
  refine x_sald (M := (M_law nm)) dL_law_1074 (by decide) hx (vp_inD (by decide +kernel)) ?_
  refine x_top (M := (M_law nm)) (y := a1) ((congrArg xs (by decide +kernel : ((Int32.ofInt 1) + (Int32.ofInt 2)).toNatClampNeg = 3)).trans e3) ?_
  refine x_aload_n (M := (M_law nm)) dL_law_1075 rfl ?_
  refine x_iload (M := (M_law nm)) dL_law_1076 rfl ?_
  refine x_iconst (M := (M_law nm)) dL_law_1078 ?_
  refine x_iadd (M := (M_law nm)) dL_law_1079 ?_
  refine x_sald (M := (M_law nm)) dL_law_1080 (by decide) hx (vp_inD (by decide +kernel)) ?_
  refine x_top (M := (M_law nm)) (y := a2) ((congrArg xs (by decide +kernel : ((Int32.ofInt 1) + (Int32.ofInt 3)).toNatClampNeg = 4)).trans e4) ?_
  refine x_aload_n (M := (M_law nm)) dL_law_1081 rfl ?_
  refine x_iload (M := (M_law nm)) dL_law_1082 rfl ?_
  refine x_iconst (M := (M_law nm)) dL_law_1084 ?_
  refine x_iadd (M := (M_law nm)) dL_law_1085 ?_
  refine x_sald (M := (M_law nm)) dL_law_1086 (by decide) hx (vp_inD (by decide +kernel)) ?_
  refine x_top (M := (M_law nm)) (y := a3) ((congrArg xs (by decide +kernel : ((Int32.ofInt 1) + (Int32.ofInt 4)).toNatClampNeg = 5)).trans e5) ?_
  have o3025 := (f3013 277 _ (by decide) o3024)
  refine y_callVR (M := (M_law nm)) (M' := M_X12_overlay) rfl rfl dL_law_1087 m_X12_overlay t_3350 t_3351 t_3352 (q3023 hl c0 c1 c2 c3 o3025) rfl rfl o3025 rfl (Nat.le_of_ble_eq_true rfl) (Nat.le_of_ble_eq_true rfl) (Nat.le_of_ble_eq_true rfl) (Nat.le_of_ble_eq_true rfl) (fun h3026 f3027 w3028 => ?_)
  obtain ⟨o3029, -⟩ := w3028
  refine x_istore (M := (M_law nm)) dL_law_1090 (Nat.le_of_ble_eq_true rfl) rfl ?_
  refine x_aload_n (M := (M_law nm)) dL_law_1092 rfl ?_
  refine x_callVR (M := (M_law nm)) (M' := M_X12_thrown) rfl rfl dL_law_1093 m_X12_thrown t_2797 t_2798 t_2799 (q35 hl o3029) rfl rfl o3029 rfl (Nat.le_of_ble_eq_true rfl) (Nat.le_of_ble_eq_true rfl) (Nat.le_of_ble_eq_true rfl) (Nat.le_of_ble_eq_true rfl) ?_
  refine x_iload (M := (M_law nm)) dL_law_1096 rfl ?_
  refine x_icmp_eq (M := (M_law nm)) (tgt := 1103) dL_law_1098 (by decide) (fun _ => ?_) (fun q => absurd q (by decide +kernel))
  refine x_iload (M := (M_law nm)) dL_law_1103 rfl ?_
  refine x_if_ne (M := (M_law nm)) (tgt := 1120) dL_law_1105 (by decide) (fun _ => ?_) (fun q => absurd q (by decide +kernel))
  refine x_goto (M := (M_law nm)) (tgt := 2449) dL_law_1120 (by decide) ?_
  refine x_iinc (M := (M_law nm)) dL_law_2449 rfl (Nat.le_of_ble_eq_true rfl) rfl ?_
  refine x_lvs (M := (M_law nm)) (lv' := [some (.ref 0), some (.ref 32), some (.ref 277), some (.ref 359), some (.int (Int32.ofInt 7)), some (.int (Int32.ofInt 1)), some (.int (Int32.ofInt 0)), none]) (by rw [(by decide +kernel : (Int32.ofInt 1) + Int32.ofInt 6 = (Int32.ofInt 7))] <;> rfl) ?_
  refine x_goto (M := (M_law nm)) (tgt := 33) dL_law_2452 (by decide) ?_
  refine x_iload (M := (M_law nm)) dL_law_33 rfl ?_
  refine x_aload_n (M := (M_law nm)) dL_law_35 rfl ?_
  refine x_slen (M := (M_law nm)) dL_law_36 (by decide) hx ?_
  refine x_bipush (M := (M_law nm)) dL_law_37 ?_
  refine x_isub (M := (M_law nm)) dL_law_39 ?_
  refine x_icmp_gt (M := (M_law nm)) (tgt := 2455) dL_law_40 (by decide) (fun _ => ?_) (fun q => absurd q (by decide +kernel))
  refine x_iconst (M := (M_law nm)) dL_law_2455 ?_
  exact x_zret (M := (M_law nm)) dL_law_2456 rfl (by decide) rfl (Nat.le_of_ble_eq_true rfl) (Nat.le_of_ble_eq_true rfl)
set_option maxRecDepth 10000 in
theorem q3034 {l : Launch} {E : EE} (hl : l.stackTraces = false) {h : HP} {a0 : Int32} {a1 : Int32} {a2 : Int32} {a3 : Int32} (c0 : ¬ (a1.toInt < 0)) (c1 : ¬ (a1.toInt < 32)) (o3030 : ob h 32 = some (.inr (14, [.ref 33, .ref 162, .ref 166, .int (0 : Int32), .int (0 : Int32), .int (0 : Int32), .ref 167, .ref 170, .ref 173, .ref 177, .ref 193, .ref 208, .ref 222, .ref 238, .ref 252, .ref 274, .ref 275, .ref 276, .int (0 : Int32)]))) : en_C l E M_X11_overlay 7 1 6 [.ref 32, .int a0, .int a1, .int a2, .int a3] h (pT "java/lang/IndexOutOfBoundsException" [] h (fun _ => True)) := by
  refine en_mk m_X11_overlay rfl hl (Nat.le_of_ble_eq_true rfl) ?_
  refine x_aload_n (M := M_X11_overlay) dX11_overlay_0 rfl ?_
  refine x_iload_n (M := M_X11_overlay) dX11_overlay_1 rfl ?_
  exact y_callVX (M := M_X11_overlay) (M' := M_X11_slotNumbered) rfl rfl dX11_overlay_2 m_X11_slotNumbered t_744 t_746 s_2 (q1560 hl c0 c1) rfl rfl o3030 rfl (Nat.le_of_ble_eq_true rfl) (Nat.le_of_ble_eq_true rfl) (Nat.le_of_ble_eq_true rfl) (Nat.le_of_ble_eq_true rfl) (fun h3031 f3032 w3033 => ⟨rfl, (fr_tr f3032 (fun _ h => nomatch h) fr_rf), trivial⟩)
set_option maxRecDepth 10000 in
theorem q3039 {l : Launch} {E : EE} (hl : l.stackTraces = false) {h : HP} {a0 : Int32} {a1 : Int32} {a2 : Int32} {a3 : Int32} (c0 : ¬ (a1.toInt < 0)) (c1 : ¬ (a1.toInt < 32)) (o3035 : ob h 32 = some (.inr (14, [.ref 33, .ref 162, .ref 166, .int (0 : Int32), .int (0 : Int32), .int (0 : Int32), .ref 167, .ref 170, .ref 173, .ref 177, .ref 193, .ref 208, .ref 222, .ref 238, .ref 252, .ref 274, .ref 275, .ref 276, .int (0 : Int32)]))) : en_C l E M_L_overlay 8 1 6 [.ref 32, .int a0, .int a1, .int a2, .int a3, .ref 359] h (pF (some (.int (Int32.ofInt 1))) [] h (fun _ => True)) := by
  refine en_mkW m_L_overlay rfl hl (Nat.le_of_ble_eq_true rfl) ?_
  refine x_aload (M := M_L_overlay) dL_overlay_0 rfl ?_
  refine x_iconst (M := M_L_overlay) dL_overlay_2 ?_
  refine x_aload_n (M := M_L_overlay) dL_overlay_3 rfl ?_
  refine x_iload_n (M := M_L_overlay) dL_overlay_4 rfl ?_
  refine x_iload_n (M := M_L_overlay) dL_overlay_5 rfl ?_
  refine x_iload_n (M := M_L_overlay) dL_overlay_6 rfl ?_
  refine x_iload (M := M_L_overlay) dL_overlay_7 rfl ?_
  refine y_callVHX (M := M_L_overlay) (M' := M_X11_overlay) (i9 := 6) (nx := 19) rfl dL_overlay_9 m_X11_overlay t_1373 t_1374 t_1375 o3035 rfl (q3034 hl c0 c1 o3035) rfl rfl (Nat.le_of_ble_eq_true rfl) (Nat.le_of_ble_eq_true rfl) (Nat.le_of_ble_eq_true rfl) (Nat.le_of_ble_eq_true rfl) (en_hdm (k0 := 6) [] [(0, 14, 21, 13), (0, 14, 25, 19), (0, 14, 29, 63)] rfl (fun _ h => nomatch h) (by decide +kernel) (by decide) t_739 n_750 dL_overlay_17) (by decide) rfl (fun h3036 f3037 w3038 => ?_)
  refine x_iconst (M := M_L_overlay) dL_overlay_19 ?_
  exact x_iret (M := M_L_overlay) dL_overlay_20 rfl ⟨rfl, (fr_tr f3037 (fun _ h => nomatch h) fr_rf), trivial⟩ (Nat.le_of_ble_eq_true rfl) (Nat.le_of_ble_eq_true rfl)
set_option maxRecDepth 10000 in
theorem q3052 {l : Launch} {E : EE} (hl : l.stackTraces = false) {h : HP} {a0 : Int32} {a1 : Int32} {a2 : Int32} {a3 : Int32} {dg : Int32} (c0 : ¬ (a1.toInt < 0)) (c1 : ¬ (a1.toInt < 32)) (o3044 : ob h 277 = some (.inr (15, (RB dg)))) : en_C l E M_X12_overlay 1 0 0 [.ref 277, .int a0, .int a1, .int a2, .int a3] h (pF (some (.int (Int32.ofInt 0))) [277] h (fun h' => ob h' 277 = some (.inr (15, ((RB dg).set 0 (.int (Int32.ofInt 1))))) ∧ True)) := by
  refine en_mk m_X12_overlay rfl hl (Nat.le_of_ble_eq_true rfl) ?_
  refine x_aload_n (M := M_X12_overlay) dX12_overlay_0 rfl ?_
  refine x_iconst (M := M_X12_overlay) dX12_overlay_1 ?_
  refine y_put (M := M_X12_overlay) (ci := 15) (C := RX12) (T := TX12) (N := 135) (ty := tyX12) cl15 dX12_overlay_2 o3044 0 (by decide) t_2391 (Or.inl rfl) (Nat.le_of_ble_eq_true rfl) rfl (fun h3045 w3046 f3047 => ?_)
  refine x_aload_n (M := M_X12_overlay) dX12_overlay_5 rfl ?_
  refine x_iload_n (M := M_X12_overlay) dX12_overlay_6 rfl ?_
  refine x_callSR (M := M_X12_overlay) (M' := M_X12_isSlot) rfl rfl dX12_overlay_7 m_X12_isSlot t_2841 t_2842 (q1580 hl c0 c1) rfl rfl (Nat.le_of_ble_eq_true rfl) (Nat.le_of_ble_eq_true rfl) (Nat.le_of_ble_eq_true rfl) (Nat.le_of_ble_eq_true rfl) ?_
  refine x_if_eq (M := M_X12_overlay) (tgt := 28) dX12_overlay_10 (by decide) (fun _ => ?_) (fun q => absurd q (by decide +kernel))
  refine x_iconst (M := M_X12_overlay) dX12_overlay_28 ?_
  refine x_goto (M := M_X12_overlay) (tgt := 33) dX12_overlay_29 (by decide) ?_
  refine x_iconst (M := M_X12_overlay) dX12_overlay_33 ?_
  refine y_callVR (M := M_X12_overlay) (M' := M_X12_fails) rfl rfl dX12_overlay_34 m_X12_fails t_2805 t_2807 s_157 (q22 hl w3046) rfl rfl w3046 rfl (Nat.le_of_ble_eq_true rfl) (Nat.le_of_ble_eq_true rfl) (Nat.le_of_ble_eq_true rfl) (Nat.le_of_ble_eq_true rfl) (fun h3048 f3049 w3050 => ?_)
  obtain ⟨o3051, -⟩ := w3050
  refine x_if_ne (M := M_X12_overlay) (tgt := 69) dX12_overlay_37 (by decide) (fun _ => ?_) (fun q => absurd q (by decide +kernel))
  refine x_iconst (M := M_X12_overlay) dX12_overlay_69 ?_
  exact x_iret (M := M_X12_overlay) dX12_overlay_70 rfl ⟨rfl, (fr_tr f3049 (by decide) (fr_tr f3047 (by decide) fr_rf)), ⟨o3051, trivial⟩⟩ (Nat.le_of_ble_eq_true rfl) (Nat.le_of_ble_eq_true rfl)
set_option maxRecDepth 10000 in
theorem lc14_6 {l : Launch} {E : EE} (hl : l.stackTraces = false) (nm : String) {xs : Nat → Int32} (hx : E.2.2.2.2 0 = some (7, xs)) {h : HP} {a0 : Int32} {a1 : Int32} {a2 : Int32} {a3 : Int32} {dg : Int32} (e2 : xs 2 = a0) (e3 : xs 3 = a1) (e4 : xs 4 = a2) (e5 : xs 5 = a3) (c0 : ¬ (a1.toInt < 0)) (c1 : ¬ (a1.toInt < 32)) (o3040 : ob h 32 = some (.inr (14, [.ref 33, .ref 162, .ref 166, .int (0 : Int32), .int (0 : Int32), .int (0 : Int32), .ref 167, .ref 170, .ref 173, .ref 177, .ref 193, .ref 208, .ref 222, .ref 238, .ref 252, .ref 274, .ref 275, .ref 276, .int (0 : Int32)]))) (o3053 : ob h 277 = some (.inr (15, (RB dg)))) : XX l E (M_law nm) 1312 342628 8074320 (fun o _ => o = .inl (some (.int 1))) 1031 [some (.ref 0), some (.ref 32), some (.ref 277), some (.ref 359), some (.int (Int32.ofInt 1)), none, none, none] [] h 328 2463747 := by
  refine x_aload_n (M := (M_law nm)) dL_law_1031 rfl ?_
  refine x_aload_n (M := (M_law nm)) dL_law_1032 rfl ?_
  refine x_iload (M := (M_law nm)) dL_law_1033 rfl ?_
  refine x_iconst (M := (M_law nm)) dL_law_1035 ?_
  refine x_iadd (M := (M_law nm)) dL_law_1036 ?_
  refine x_sald (M := (M_law nm)) dL_law_1037 (by decide) hx (vp_inD (by decide +kernel)) ?_
  refine x_top (M := (M_law nm)) (y := a0) ((congrArg xs (by decide +kernel : ((Int32.ofInt 1) + (Int32.ofInt 1)).toNatClampNeg = 2)).trans e2) ?_
  refine x_aload_n (M := (M_law nm)) dL_law_1038 rfl ?_
  refine x_iload (M := (M_law nm)) dL_law_1039 rfl ?_
  refine x_iconst (M := (M_law nm)) dL_law_1041 ?_
  refine x_iadd (M := (M_law nm)) dL_law_1042 ?_
  refine x_sald (M := (M_law nm)) dL_law_1043 (by decide) hx (vp_inD (by decide +kernel)) ?_
  refine x_top (M := (M_law nm)) (y := a1) ((congrArg xs (by decide +kernel : ((Int32.ofInt 1) + (Int32.ofInt 2)).toNatClampNeg = 3)).trans e3) ?_
  refine x_aload_n (M := (M_law nm)) dL_law_1044 rfl ?_
  refine x_iload (M := (M_law nm)) dL_law_1045 rfl ?_
  refine x_iconst (M := (M_law nm)) dL_law_1047 ?_
  refine x_iadd (M := (M_law nm)) dL_law_1048 ?_
  refine x_sald (M := (M_law nm)) dL_law_1049 (by decide) hx (vp_inD (by decide +kernel)) ?_
  refine x_top (M := (M_law nm)) (y := a2) ((congrArg xs (by decide +kernel : ((Int32.ofInt 1) + (Int32.ofInt 3)).toNatClampNeg = 4)).trans e4) ?_
  refine x_aload_n (M := (M_law nm)) dL_law_1050 rfl ?_
  refine x_iload (M := (M_law nm)) dL_law_1051 rfl ?_
  refine x_iconst (M := (M_law nm)) dL_law_1053 ?_
  refine x_iadd (M := (M_law nm)) dL_law_1054 ?_
  refine x_sald (M := (M_law nm)) dL_law_1055 (by decide) hx (vp_inD (by decide +kernel)) ?_
  refine x_top (M := (M_law nm)) (y := a3) ((congrArg xs (by decide +kernel : ((Int32.ofInt 1) + (Int32.ofInt 4)).toNatClampNeg = 5)).trans e5) ?_
  refine x_aload_n (M := (M_law nm)) dL_law_1056 rfl ?_
  refine y_callSW (M := (M_law nm)) (M' := M_L_overlay) rfl rfl dL_law_1057 m_L_overlay t_1369 t_1370 (q3039 hl c0 c1 o3040) rfl rfl (Nat.le_of_ble_eq_true rfl) (Nat.le_of_ble_eq_true rfl) (Nat.le_of_ble_eq_true rfl) (Nat.le_of_ble_eq_true rfl) (fun h3041 f3042 w3043 => ?_)
  refine x_istore (M := (M_law nm)) dL_law_1060 (Nat.le_of_ble_eq_true rfl) rfl ?_
  refine x_aload_n (M := (M_law nm)) dL_law_1062 rfl ?_
  refine x_aload_n (M := (M_law nm)) dL_law_1063 rfl ?_
  refine x_iload (M := (M_law nm)) dL_law_1064 rfl ?_
  refine x_iconst (M := (M_law nm)) dL_law_1066 ?_
  refine x_iadd (M := (M_law nm)) dL_law_1067 ?_
  refine x_sald (M := (M_law nm)) dL_law_1068 (by decide) hx (vp_inD (by decide +kernel)) ?_
  refine x_top (M := (M_law nm)) (y := a0) ((congrArg xs (by decide +kernel : ((Int32.ofInt 1) + (Int32.ofInt 1)).toNatClampNeg = 2)).trans e2) ?_
  refine x_aload_n (M := (M_law nm)) dL_law_1069 rfl ?_
  refine x_iload (M := (M_law nm)) dL_law_1070 rfl ?_
  refine x_iconst (M := (M_law nm)) dL_law_1072 ?_
  refine x_iadd (M := (M_law nm)) dL_law_1073 ?_
  refine x_sald (M := (M_law nm)) dL_law_1074 (by decide) hx (vp_inD (by decide +kernel)) ?_
  refine x_top (M := (M_law nm)) (y := a1) ((congrArg xs (by decide +kernel : ((Int32.ofInt 1) + (Int32.ofInt 2)).toNatClampNeg = 3)).trans e3) ?_
  refine x_aload_n (M := (M_law nm)) dL_law_1075 rfl ?_
  refine x_iload (M := (M_law nm)) dL_law_1076 rfl ?_
  refine x_iconst (M := (M_law nm)) dL_law_1078 ?_
  refine x_iadd (M := (M_law nm)) dL_law_1079 ?_
  refine x_sald (M := (M_law nm)) dL_law_1080 (by decide) hx (vp_inD (by decide +kernel)) ?_
  refine x_top (M := (M_law nm)) (y := a2) ((congrArg xs (by decide +kernel : ((Int32.ofInt 1) + (Int32.ofInt 3)).toNatClampNeg = 4)).trans e4) ?_
  refine x_aload_n (M := (M_law nm)) dL_law_1081 rfl ?_
  refine x_iload (M := (M_law nm)) dL_law_1082 rfl ?_
  refine x_iconst (M := (M_law nm)) dL_law_1084 ?_
  refine x_iadd (M := (M_law nm)) dL_law_1085 ?_
  refine x_sald (M := (M_law nm)) dL_law_1086 (by decide) hx (vp_inD (by decide +kernel)) ?_
  refine x_top (M := (M_law nm)) (y := a3) ((congrArg xs (by decide +kernel : ((Int32.ofInt 1) + (Int32.ofInt 4)).toNatClampNeg = 5)).trans e5) ?_
  have o3054 := (f3042 277 _ (by decide) o3053)
  refine y_callVR (M := (M_law nm)) (M' := M_X12_overlay) rfl rfl dL_law_1087 m_X12_overlay t_3350 t_3351 t_3352 (q3052 hl c0 c1 o3054) rfl rfl o3054 rfl (Nat.le_of_ble_eq_true rfl) (Nat.le_of_ble_eq_true rfl) (Nat.le_of_ble_eq_true rfl) (Nat.le_of_ble_eq_true rfl) (fun h3055 f3056 w3057 => ?_)
  obtain ⟨o3058, -⟩ := w3057
  refine x_istore (M := (M_law nm)) dL_law_1090 (Nat.le_of_ble_eq_true rfl) rfl ?_
  refine x_aload_n (M := (M_law nm)) dL_law_1092 rfl ?_
  refine x_callVR (M := (M_law nm)) (M' := M_X12_thrown) rfl rfl dL_law_1093 m_X12_thrown t_2797 t_2798 t_2799 (q35 hl o3058) rfl rfl o3058 rfl (Nat.le_of_ble_eq_true rfl) (Nat.le_of_ble_eq_true rfl) (Nat.le_of_ble_eq_true rfl) (Nat.le_of_ble_eq_true rfl) ?_
  refine x_iload (M := (M_law nm)) dL_law_1096 rfl ?_
  refine x_icmp_eq (M := (M_law nm)) (tgt := 1103) dL_law_1098 (by decide) (fun _ => ?_) (fun q => absurd q (by decide +kernel))
  refine x_iload (M := (M_law nm)) dL_law_1103 rfl ?_
  refine x_if_ne (M := (M_law nm)) (tgt := 1120) dL_law_1105 (by decide) (fun _ => ?_) (fun q => absurd q (by decide +kernel))
  refine x_goto (M := (M_law nm)) (tgt := 2449) dL_law_1120 (by decide) ?_
  refine x_iinc (M := (M_law nm)) dL_law_2449 rfl (Nat.le_of_ble_eq_true rfl) rfl ?_
  refine x_lvs (M := (M_law nm)) (lv' := [some (.ref 0), some (.ref 32), some (.ref 277), some (.ref 359), some (.int (Int32.ofInt 7)), some (.int (Int32.ofInt 1)), some (.int (Int32.ofInt 0)), none]) (by rw [(by decide +kernel : (Int32.ofInt 1) + Int32.ofInt 6 = (Int32.ofInt 7))] <;> rfl) ?_
  refine x_goto (M := (M_law nm)) (tgt := 33) dL_law_2452 (by decide) ?_
  refine x_iload (M := (M_law nm)) dL_law_33 rfl ?_
  refine x_aload_n (M := (M_law nm)) dL_law_35 rfl ?_
  refine x_slen (M := (M_law nm)) dL_law_36 (by decide) hx ?_
  refine x_bipush (M := (M_law nm)) dL_law_37 ?_
  refine x_isub (M := (M_law nm)) dL_law_39 ?_
  refine x_icmp_gt (M := (M_law nm)) (tgt := 2455) dL_law_40 (by decide) (fun _ => ?_) (fun q => absurd q (by decide +kernel))
  refine x_iconst (M := (M_law nm)) dL_law_2455 ?_
  exact x_zret (M := (M_law nm)) dL_law_2456 rfl (by decide) rfl (Nat.le_of_ble_eq_true rfl) (Nat.le_of_ble_eq_true rfl)
theorem lop14 {l : Launch} {E : EE} (hl : l.stackTraces = false) (nm : String) {xs : Nat → Int32} (hx : E.2.2.2.2 0 = some (7, xs)) (dg : Int32) : XX l E (M_law nm) 1312 342628 8074320 (fun o _ => o = .inl (some (.int 1))) 1031 [some (.ref 0), some (.ref 32), some (.ref 277), some (.ref 359), some (.int (Int32.ofInt 1)), none, none, none] [] (HH dg) 328 2463747 := by
  obtain ⟨a0, e2⟩ : ∃ a : Int32, xs 2 = a := ⟨_, rfl⟩
  obtain ⟨a1, e3⟩ : ∃ a : Int32, xs 3 = a := ⟨_, rfl⟩
  obtain ⟨a2, e4⟩ : ∃ a : Int32, xs 4 = a := ⟨_, rfl⟩
  obtain ⟨a3, e5⟩ : ∃ a : Int32, xs 5 = a := ⟨_, rfl⟩
  obtain ⟨a4, e6⟩ : ∃ a : Int32, xs 6 = a := ⟨_, rfl⟩
  by_cases c0 : a1.toInt < 0
  · exact lc14_0 hl nm hx e2 e3 e4 e5 c0 (o_32 dg) (o_277b dg)
  · by_cases c1 : a1.toInt < 32
    · by_cases c2 : a2.toInt < 0
      · exact lc14_1 hl nm hx e2 e3 e4 e5 c0 c1 c2 (o_32 dg) (o_33 dg) (o_277b dg)
      · by_cases c3 : a2.toInt < 32
        · by_cases c4 : a3.toInt < 0
          · exact lc14_2 hl nm hx e2 e3 e4 e5 c0 c1 c2 c3 c4 (o_32 dg) (o_33 dg) (o_277b dg)
          · by_cases c5 : a3.toInt < 32
            · have n_a1 : a1.toNatClampNeg < 32 := nc_lt (by omega) (by decide)
              exact lc14_3 hl nm hx e2 e3 e4 e5 c0 c1 c2 c3 c4 c5 (o_32 dg) (o_33 dg) (o_sh dg a1.toNatClampNeg n_a1) (o_277b dg) (oMR (dg := dg) (k := 2) rfl)
            · exact lc14_4 hl nm hx e2 e3 e4 e5 c0 c1 c2 c3 c4 c5 (o_32 dg) (o_33 dg) (o_277b dg)
        · exact lc14_5 hl nm hx e2 e3 e4 e5 c0 c1 c2 c3 (o_32 dg) (o_33 dg) (o_277b dg)
    · exact lc14_6 hl nm hx e2 e3 e4 e5 c0 c1 (o_32 dg) (o_277b dg)
end CAS
