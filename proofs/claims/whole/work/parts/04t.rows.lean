theorem dL_find_0 : decode cL_find 0 = .ok (.aload 6, 2) := by decide +kernel
theorem dL_find_2 : decode cL_find 2 = .ok (.iconst 0, 1) := by decide +kernel
theorem dL_find_3 : decode cL_find 3 = .ok (.aload_n 0, 1) := by decide +kernel
theorem dL_find_4 : decode cL_find 4 = .ok (.iload_n 1, 1) := by decide +kernel
theorem dL_find_5 : decode cL_find 5 = .ok (.iload_n 2, 1) := by decide +kernel
theorem dL_find_6 : decode cL_find 6 = .ok (.iload_n 3, 1) := by decide +kernel
theorem dL_find_7 : decode cL_find 7 = .ok (.iload 4, 2) := by decide +kernel
theorem dL_find_9 : decode cL_find 9 = .ok (.iload 5, 2) := by decide +kernel
theorem dL_find_11 : decode cL_find 11 = .ok (.invokevirtual 92, 3) := by decide +kernel
theorem dL_find_14 : decode cL_find 14 = .ok (.i2l, 1) := by decide +kernel
theorem dL_find_15 : decode cL_find 15 = .ok (.lastore, 1) := by decide +kernel
theorem dL_find_16 : decode cL_find 16 = .ok (.goto 7, 3) := by decide +kernel
theorem dL_find_19 : decode cL_find 19 = .ok (.astore 7, 2) := by decide +kernel
theorem dL_find_21 : decode cL_find 21 = .ok (.iconst 1, 1) := by decide +kernel
theorem dL_find_22 : decode cL_find 22 = .ok (.ireturn, 1) := by decide +kernel
theorem dL_find_23 : decode cL_find 23 = .ok (.iconst 0, 1) := by decide +kernel
theorem dL_find_24 : decode cL_find 24 = .ok (.ireturn, 1) := by decide +kernel
theorem dL_nearest_0 : decode cL_nearest 0 = .ok (.aload 4, 2) := by decide +kernel
theorem dL_nearest_2 : decode cL_nearest 2 = .ok (.iconst 0, 1) := by decide +kernel
theorem dL_nearest_3 : decode cL_nearest 3 = .ok (.aload_n 0, 1) := by decide +kernel
theorem dL_nearest_4 : decode cL_nearest 4 = .ok (.iload_n 1, 1) := by decide +kernel
theorem dL_nearest_5 : decode cL_nearest 5 = .ok (.iload_n 2, 1) := by decide +kernel
theorem dL_nearest_6 : decode cL_nearest 6 = .ok (.iload_n 3, 1) := by decide +kernel
theorem dL_nearest_7 : decode cL_nearest 7 = .ok (.invokevirtual 95, 3) := by decide +kernel
theorem dL_nearest_10 : decode cL_nearest 10 = .ok (.i2l, 1) := by decide +kernel
theorem dL_nearest_11 : decode cL_nearest 11 = .ok (.lastore, 1) := by decide +kernel
theorem dL_nearest_12 : decode cL_nearest 12 = .ok (.goto 7, 3) := by decide +kernel
theorem dL_nearest_15 : decode cL_nearest 15 = .ok (.astore 5, 2) := by decide +kernel
theorem dL_nearest_17 : decode cL_nearest 17 = .ok (.iconst 1, 1) := by decide +kernel
theorem dL_nearest_18 : decode cL_nearest 18 = .ok (.ireturn, 1) := by decide +kernel
theorem dL_nearest_19 : decode cL_nearest 19 = .ok (.iconst 0, 1) := by decide +kernel
theorem dL_nearest_20 : decode cL_nearest 20 = .ok (.ireturn, 1) := by decide +kernel
theorem dL_found_0 : decode cL_found 0 = .ok (.aload_n 2, 1) := by decide +kernel
theorem dL_found_1 : decode cL_found 1 = .ok (.iconst 0, 1) := by decide +kernel
theorem dL_found_2 : decode cL_found 2 = .ok (.aload_n 0, 1) := by decide +kernel
theorem dL_found_3 : decode cL_found 3 = .ok (.iload_n 1, 1) := by decide +kernel
theorem dL_found_4 : decode cL_found 4 = .ok (.invokevirtual 98, 3) := by decide +kernel
theorem dL_found_7 : decode cL_found 7 = .ok (.i2l, 1) := by decide +kernel
theorem dL_found_8 : decode cL_found 8 = .ok (.lastore, 1) := by decide +kernel
theorem dL_found_9 : decode cL_found 9 = .ok (.goto 6, 3) := by decide +kernel
theorem dL_found_12 : decode cL_found 12 = .ok (.astore_n 3, 1) := by decide +kernel
theorem dL_found_13 : decode cL_found 13 = .ok (.iconst 1, 1) := by decide +kernel
theorem dL_found_14 : decode cL_found 14 = .ok (.ireturn, 1) := by decide +kernel
theorem dL_found_15 : decode cL_found 15 = .ok (.iconst 0, 1) := by decide +kernel
theorem dL_found_16 : decode cL_found 16 = .ok (.ireturn, 1) := by decide +kernel
theorem dL_plan_0 : decode cL_plan 0 = .ok (.aload_n 3, 1) := by decide +kernel
theorem dL_plan_1 : decode cL_plan 1 = .ok (.iconst 0, 1) := by decide +kernel
theorem dL_plan_2 : decode cL_plan 2 = .ok (.aload_n 0, 1) := by decide +kernel
theorem dL_plan_3 : decode cL_plan 3 = .ok (.iload_n 1, 1) := by decide +kernel
theorem dL_plan_4 : decode cL_plan 4 = .ok (.iload_n 2, 1) := by decide +kernel
theorem dL_plan_5 : decode cL_plan 5 = .ok (.invokevirtual 101, 3) := by decide +kernel
theorem dL_plan_8 : decode cL_plan 8 = .ok (.i2l, 1) := by decide +kernel
theorem dL_plan_9 : decode cL_plan 9 = .ok (.lastore, 1) := by decide +kernel
theorem dL_plan_10 : decode cL_plan 10 = .ok (.goto 7, 3) := by decide +kernel
theorem dL_plan_13 : decode cL_plan 13 = .ok (.astore 4, 2) := by decide +kernel
theorem dL_plan_15 : decode cL_plan 15 = .ok (.iconst 1, 1) := by decide +kernel
theorem dL_plan_16 : decode cL_plan 16 = .ok (.ireturn, 1) := by decide +kernel
theorem dL_plan_17 : decode cL_plan 17 = .ok (.iconst 0, 1) := by decide +kernel
theorem dL_plan_18 : decode cL_plan 18 = .ok (.ireturn, 1) := by decide +kernel
theorem dL_ordinate_0 : decode cL_ordinate 0 = .ok (.aload 4, 2) := by decide +kernel
theorem dL_ordinate_2 : decode cL_ordinate 2 = .ok (.iconst 0, 1) := by decide +kernel
theorem dL_ordinate_3 : decode cL_ordinate 3 = .ok (.aload_n 0, 1) := by decide +kernel
theorem dL_ordinate_4 : decode cL_ordinate 4 = .ok (.iload_n 1, 1) := by decide +kernel
theorem dL_ordinate_5 : decode cL_ordinate 5 = .ok (.iload_n 2, 1) := by decide +kernel
theorem dL_ordinate_6 : decode cL_ordinate 6 = .ok (.iload_n 3, 1) := by decide +kernel
theorem dL_ordinate_7 : decode cL_ordinate 7 = .ok (.invokevirtual 104, 3) := by decide +kernel
theorem dL_ordinate_10 : decode cL_ordinate 10 = .ok (.i2l, 1) := by decide +kernel
theorem dL_ordinate_11 : decode cL_ordinate 11 = .ok (.lastore, 1) := by decide +kernel
theorem dL_ordinate_12 : decode cL_ordinate 12 = .ok (.goto 7, 3) := by decide +kernel
theorem dL_ordinate_15 : decode cL_ordinate 15 = .ok (.astore 5, 2) := by decide +kernel
theorem dL_ordinate_17 : decode cL_ordinate 17 = .ok (.iconst 1, 1) := by decide +kernel
theorem dL_ordinate_18 : decode cL_ordinate 18 = .ok (.ireturn, 1) := by decide +kernel
theorem dL_ordinate_19 : decode cL_ordinate 19 = .ok (.iconst 0, 1) := by decide +kernel
theorem dL_ordinate_20 : decode cL_ordinate 20 = .ok (.ireturn, 1) := by decide +kernel
theorem dL_count_0 : decode cL_count 0 = .ok (.aload_n 3, 1) := by decide +kernel
theorem dL_count_1 : decode cL_count 1 = .ok (.iconst 0, 1) := by decide +kernel
theorem dL_count_2 : decode cL_count 2 = .ok (.aload_n 0, 1) := by decide +kernel
theorem dL_count_3 : decode cL_count 3 = .ok (.iload_n 1, 1) := by decide +kernel
theorem dL_count_4 : decode cL_count 4 = .ok (.iload_n 2, 1) := by decide +kernel
theorem dL_count_5 : decode cL_count 5 = .ok (.invokevirtual 107, 3) := by decide +kernel
theorem dL_count_8 : decode cL_count 8 = .ok (.i2l, 1) := by decide +kernel
theorem dL_count_9 : decode cL_count 9 = .ok (.lastore, 1) := by decide +kernel
theorem dL_count_10 : decode cL_count 10 = .ok (.goto 7, 3) := by decide +kernel
theorem dL_count_13 : decode cL_count 13 = .ok (.astore 4, 2) := by decide +kernel
theorem dL_count_15 : decode cL_count 15 = .ok (.iconst 1, 1) := by decide +kernel
theorem dL_count_16 : decode cL_count 16 = .ok (.ireturn, 1) := by decide +kernel
theorem dL_count_17 : decode cL_count 17 = .ok (.iconst 0, 1) := by decide +kernel
theorem dL_count_18 : decode cL_count 18 = .ok (.ireturn, 1) := by decide +kernel
theorem dL_point_0 : decode cL_point 0 = .ok (.aload_n 0, 1) := by decide +kernel
theorem dL_point_1 : decode cL_point 1 = .ok (.iload_n 1, 1) := by decide +kernel
theorem dL_point_2 : decode cL_point 2 = .ok (.lload_n 2, 1) := by decide +kernel
theorem dL_point_3 : decode cL_point 3 = .ok (.lload 4, 2) := by decide +kernel
theorem dL_point_5 : decode cL_point 5 = .ok (.invokevirtual 110, 3) := by decide +kernel
theorem dL_point_8 : decode cL_point 8 = .ok (.goto 11, 3) := by decide +kernel
theorem dL_point_11 : decode cL_point 11 = .ok (.astore 6, 2) := by decide +kernel
theorem dL_point_13 : decode cL_point 13 = .ok (.iconst 1, 1) := by decide +kernel
theorem dL_point_14 : decode cL_point 14 = .ok (.ireturn, 1) := by decide +kernel
theorem dL_point_15 : decode cL_point 15 = .ok (.astore 6, 2) := by decide +kernel
theorem dL_point_17 : decode cL_point 17 = .ok (.iconst 2, 1) := by decide +kernel
theorem dL_point_18 : decode cL_point 18 = .ok (.ireturn, 1) := by decide +kernel
theorem dL_point_19 : decode cL_point 19 = .ok (.iconst 0, 1) := by decide +kernel
theorem dL_point_20 : decode cL_point 20 = .ok (.ireturn, 1) := by decide +kernel
theorem dL_side_0 : decode cL_side 0 = .ok (.aload 4, 2) := by decide +kernel
theorem dL_side_2 : decode cL_side 2 = .ok (.iconst 0, 1) := by decide +kernel
theorem dL_side_3 : decode cL_side 3 = .ok (.aload_n 0, 1) := by decide +kernel
theorem dL_side_4 : decode cL_side 4 = .ok (.iload_n 1, 1) := by decide +kernel
theorem dL_side_5 : decode cL_side 5 = .ok (.iload_n 2, 1) := by decide +kernel
theorem dL_side_6 : decode cL_side 6 = .ok (.iload_n 3, 1) := by decide +kernel
theorem dL_side_7 : decode cL_side 7 = .ok (.invokevirtual 114, 3) := by decide +kernel
theorem dL_side_10 : decode cL_side 10 = .ok (.i2l, 1) := by decide +kernel
theorem dL_side_11 : decode cL_side 11 = .ok (.lastore, 1) := by decide +kernel
theorem dL_side_12 : decode cL_side 12 = .ok (.goto 7, 3) := by decide +kernel
theorem dL_side_15 : decode cL_side 15 = .ok (.astore 5, 2) := by decide +kernel
theorem dL_side_17 : decode cL_side 17 = .ok (.iconst 1, 1) := by decide +kernel
theorem dL_side_18 : decode cL_side 18 = .ok (.ireturn, 1) := by decide +kernel
theorem dL_side_19 : decode cL_side 19 = .ok (.iconst 0, 1) := by decide +kernel
theorem dL_side_20 : decode cL_side 20 = .ok (.ireturn, 1) := by decide +kernel
theorem dL_circle_0 : decode cL_circle 0 = .ok (.aload 5, 2) := by decide +kernel
theorem dL_circle_2 : decode cL_circle 2 = .ok (.iconst 0, 1) := by decide +kernel
theorem dL_circle_3 : decode cL_circle 3 = .ok (.aload_n 0, 1) := by decide +kernel
theorem dL_circle_4 : decode cL_circle 4 = .ok (.iload_n 1, 1) := by decide +kernel
theorem dL_circle_5 : decode cL_circle 5 = .ok (.iload_n 2, 1) := by decide +kernel
theorem dL_circle_6 : decode cL_circle 6 = .ok (.iload_n 3, 1) := by decide +kernel
theorem dL_circle_7 : decode cL_circle 7 = .ok (.iload 4, 2) := by decide +kernel
theorem dL_circle_9 : decode cL_circle 9 = .ok (.invokevirtual 117, 3) := by decide +kernel
theorem dL_circle_12 : decode cL_circle 12 = .ok (.i2l, 1) := by decide +kernel
theorem dL_circle_13 : decode cL_circle 13 = .ok (.lastore, 1) := by decide +kernel
theorem dL_circle_14 : decode cL_circle 14 = .ok (.goto 7, 3) := by decide +kernel
theorem dL_circle_17 : decode cL_circle 17 = .ok (.astore 6, 2) := by decide +kernel
theorem dL_circle_19 : decode cL_circle 19 = .ok (.iconst 1, 1) := by decide +kernel
theorem dL_circle_20 : decode cL_circle 20 = .ok (.ireturn, 1) := by decide +kernel
theorem dL_circle_21 : decode cL_circle 21 = .ok (.iconst 0, 1) := by decide +kernel
theorem dL_circle_22 : decode cL_circle 22 = .ok (.ireturn, 1) := by decide +kernel
