/-! What the bytes are (by program). -/
theorem kL_load_0 : am_dec cL_load 0 [.aload_n 2, .iconst 0, .aload_n 0, .iload_n 1] 4 = true := by decide +kernel
theorem kL_load_12 : am_dec cL_load 12 [.astore_n 3, .iconst 1] 14 = true := by decide +kernel
theorem kL_load_15 : am_dec cL_load 15 [.iconst 0] 16 = true := by decide +kernel
theorem eL_load_4 : decode cL_load 4 = .ok (.invokevirtual 7, 3) := by decide +kernel
theorem eL_load_7 : decode cL_load 7 = .ok (.i2l, 1) := by decide +kernel
theorem eL_load_8 : decode cL_load 8 = .ok (.lastore, 1) := by decide +kernel
theorem eL_load_9 : decode cL_load 9 = .ok (.goto 6, 3) := by decide +kernel
theorem eL_load_14 : decode cL_load 14 = .ok (.ireturn, 1) := by decide +kernel
theorem eL_load_16 : decode cL_load 16 = .ok (.ireturn, 1) := by decide +kernel
theorem kL_count_0 : am_dec cL_count 0 [.aload_n 2, .iconst 0, .aload_n 0, .iload_n 1] 4 = true := by decide +kernel
theorem kL_count_12 : am_dec cL_count 12 [.astore_n 3, .iconst 1] 14 = true := by decide +kernel
theorem kL_count_15 : am_dec cL_count 15 [.iconst 0] 16 = true := by decide +kernel
theorem eL_count_4 : decode cL_count 4 = .ok (.invokevirtual 15, 3) := by decide +kernel
theorem eL_count_7 : decode cL_count 7 = .ok (.i2l, 1) := by decide +kernel
theorem eL_count_8 : decode cL_count 8 = .ok (.lastore, 1) := by decide +kernel
theorem eL_count_9 : decode cL_count 9 = .ok (.goto 6, 3) := by decide +kernel
theorem eL_count_14 : decode cL_count 14 = .ok (.ireturn, 1) := by decide +kernel
theorem eL_count_16 : decode cL_count 16 = .ok (.ireturn, 1) := by decide +kernel
theorem kL_stone_0 : am_dec cL_stone 0 [.aload_n 3, .iconst 0, .aload_n 0, .iload_n 1, .iload_n 2] 5 = true := by decide +kernel
theorem kL_stone_13 : am_dec cL_stone 13 [.astore 4, .iconst 1] 16 = true := by decide +kernel
theorem kL_stone_17 : am_dec cL_stone 17 [.astore 4, .iconst 2] 20 = true := by decide +kernel
theorem kL_stone_21 : am_dec cL_stone 21 [.iconst 0] 22 = true := by decide +kernel
theorem eL_stone_5 : decode cL_stone 5 = .ok (.invokevirtual 18, 3) := by decide +kernel
theorem eL_stone_8 : decode cL_stone 8 = .ok (.i2l, 1) := by decide +kernel
theorem eL_stone_9 : decode cL_stone 9 = .ok (.lastore, 1) := by decide +kernel
theorem eL_stone_10 : decode cL_stone 10 = .ok (.goto 11, 3) := by decide +kernel
theorem eL_stone_16 : decode cL_stone 16 = .ok (.ireturn, 1) := by decide +kernel
theorem eL_stone_20 : decode cL_stone 20 = .ok (.ireturn, 1) := by decide +kernel
theorem eL_stone_22 : decode cL_stone 22 = .ok (.ireturn, 1) := by decide +kernel
theorem kL_polygon_0 : am_dec cL_polygon 0 [.aload_n 3, .iconst 0, .aload_n 0, .iload_n 1, .iload_n 2] 5 = true := by decide +kernel
theorem kL_polygon_13 : am_dec cL_polygon 13 [.astore 4, .iconst 1] 16 = true := by decide +kernel
theorem kL_polygon_17 : am_dec cL_polygon 17 [.astore 4, .iconst 2] 20 = true := by decide +kernel
theorem kL_polygon_21 : am_dec cL_polygon 21 [.iconst 0] 22 = true := by decide +kernel
theorem eL_polygon_5 : decode cL_polygon 5 = .ok (.invokevirtual 24, 3) := by decide +kernel
theorem eL_polygon_8 : decode cL_polygon 8 = .ok (.i2l, 1) := by decide +kernel
theorem eL_polygon_9 : decode cL_polygon 9 = .ok (.lastore, 1) := by decide +kernel
theorem eL_polygon_10 : decode cL_polygon 10 = .ok (.goto 11, 3) := by decide +kernel
theorem eL_polygon_16 : decode cL_polygon 16 = .ok (.ireturn, 1) := by decide +kernel
theorem eL_polygon_20 : decode cL_polygon 20 = .ok (.ireturn, 1) := by decide +kernel
theorem eL_polygon_22 : decode cL_polygon 22 = .ok (.ireturn, 1) := by decide +kernel
theorem kL_cornerAt_0 : am_dec cL_cornerAt 0 [.aload_n 3, .iconst 0, .aload_n 0, .iload_n 1, .iload_n 2] 5 = true := by decide +kernel
theorem kL_cornerAt_13 : am_dec cL_cornerAt 13 [.astore 4, .iconst 1] 16 = true := by decide +kernel
theorem kL_cornerAt_17 : am_dec cL_cornerAt 17 [.astore 4, .iconst 2] 20 = true := by decide +kernel
theorem kL_cornerAt_21 : am_dec cL_cornerAt 21 [.iconst 0] 22 = true := by decide +kernel
theorem eL_cornerAt_5 : decode cL_cornerAt 5 = .ok (.invokevirtual 29, 3) := by decide +kernel
theorem eL_cornerAt_8 : decode cL_cornerAt 8 = .ok (.i2l, 1) := by decide +kernel
theorem eL_cornerAt_9 : decode cL_cornerAt 9 = .ok (.lastore, 1) := by decide +kernel
theorem eL_cornerAt_10 : decode cL_cornerAt 10 = .ok (.goto 11, 3) := by decide +kernel
theorem eL_cornerAt_16 : decode cL_cornerAt 16 = .ok (.ireturn, 1) := by decide +kernel
theorem eL_cornerAt_20 : decode cL_cornerAt 20 = .ok (.ireturn, 1) := by decide +kernel
theorem eL_cornerAt_22 : decode cL_cornerAt 22 = .ok (.ireturn, 1) := by decide +kernel
theorem kL_reason_0 : am_dec cL_reason 0 [.aload 4, .iconst 0, .aload_n 0, .iload_n 1, .iload_n 2, .iload_n 3] 7 = true := by decide +kernel
theorem kL_reason_15 : am_dec cL_reason 15 [.astore 5, .iconst 1] 18 = true := by decide +kernel
theorem kL_reason_19 : am_dec cL_reason 19 [.astore 5, .iconst 2] 22 = true := by decide +kernel
theorem kL_reason_23 : am_dec cL_reason 23 [.iconst 0] 24 = true := by decide +kernel
theorem eL_reason_7 : decode cL_reason 7 = .ok (.invokevirtual 32, 3) := by decide +kernel
theorem eL_reason_10 : decode cL_reason 10 = .ok (.i2l, 1) := by decide +kernel
theorem eL_reason_11 : decode cL_reason 11 = .ok (.lastore, 1) := by decide +kernel
theorem eL_reason_12 : decode cL_reason 12 = .ok (.goto 11, 3) := by decide +kernel
theorem eL_reason_18 : decode cL_reason 18 = .ok (.ireturn, 1) := by decide +kernel
theorem eL_reason_22 : decode cL_reason 22 = .ok (.ireturn, 1) := by decide +kernel
theorem eL_reason_24 : decode cL_reason 24 = .ok (.ireturn, 1) := by decide +kernel
theorem kL_where_0 : am_dec cL_where 0 [.aload 4, .iconst 0, .aload_n 0, .iload_n 1, .iload_n 2, .iload_n 3] 7 = true := by decide +kernel
theorem kL_where_15 : am_dec cL_where 15 [.astore 5, .iconst 1] 18 = true := by decide +kernel
theorem kL_where_19 : am_dec cL_where 19 [.astore 5, .iconst 2] 22 = true := by decide +kernel
theorem kL_where_23 : am_dec cL_where 23 [.astore 5, .iconst 3] 26 = true := by decide +kernel
theorem kL_where_27 : am_dec cL_where 27 [.iconst 0] 28 = true := by decide +kernel
theorem eL_where_7 : decode cL_where 7 = .ok (.invokevirtual 36, 3) := by decide +kernel
theorem eL_where_10 : decode cL_where 10 = .ok (.i2l, 1) := by decide +kernel
theorem eL_where_11 : decode cL_where 11 = .ok (.lastore, 1) := by decide +kernel
theorem eL_where_12 : decode cL_where 12 = .ok (.goto 15, 3) := by decide +kernel
theorem eL_where_18 : decode cL_where 18 = .ok (.ireturn, 1) := by decide +kernel
theorem eL_where_22 : decode cL_where 22 = .ok (.ireturn, 1) := by decide +kernel
theorem eL_where_26 : decode cL_where 26 = .ok (.ireturn, 1) := by decide +kernel
theorem eL_where_28 : decode cL_where 28 = .ok (.ireturn, 1) := by decide +kernel
theorem kL_area_0 : am_dec cL_area 0 [.aload_n 2, .iconst 0, .aload_n 0, .iload_n 1] 4 = true := by decide +kernel
theorem kL_area_12 : am_dec cL_area 12 [.astore_n 3, .iconst 1] 14 = true := by decide +kernel
theorem kL_area_15 : am_dec cL_area 15 [.astore_n 3, .iconst 2] 17 = true := by decide +kernel
theorem kL_area_18 : am_dec cL_area 18 [.iconst 0] 19 = true := by decide +kernel
theorem eL_area_4 : decode cL_area 4 = .ok (.invokevirtual 41, 3) := by decide +kernel
theorem eL_area_7 : decode cL_area 7 = .ok (.i2l, 1) := by decide +kernel
theorem eL_area_8 : decode cL_area 8 = .ok (.lastore, 1) := by decide +kernel
theorem eL_area_9 : decode cL_area 9 = .ok (.goto 9, 3) := by decide +kernel
theorem eL_area_14 : decode cL_area 14 = .ok (.ireturn, 1) := by decide +kernel
theorem eL_area_17 : decode cL_area 17 = .ok (.ireturn, 1) := by decide +kernel
theorem eL_area_19 : decode cL_area 19 = .ok (.ireturn, 1) := by decide +kernel
theorem kL_border_0 : am_dec cL_border 0 [.aload_n 2, .iconst 0, .aload_n 0, .iload_n 1] 4 = true := by decide +kernel
theorem kL_border_12 : am_dec cL_border 12 [.astore_n 3, .iconst 1] 14 = true := by decide +kernel
theorem kL_border_15 : am_dec cL_border 15 [.astore_n 3, .iconst 2] 17 = true := by decide +kernel
theorem kL_border_18 : am_dec cL_border 18 [.iconst 0] 19 = true := by decide +kernel
theorem eL_border_4 : decode cL_border 4 = .ok (.invokevirtual 44, 3) := by decide +kernel
theorem eL_border_7 : decode cL_border 7 = .ok (.i2l, 1) := by decide +kernel
theorem eL_border_8 : decode cL_border 8 = .ok (.lastore, 1) := by decide +kernel
theorem eL_border_9 : decode cL_border 9 = .ok (.goto 9, 3) := by decide +kernel
theorem eL_border_14 : decode cL_border 14 = .ok (.ireturn, 1) := by decide +kernel
theorem eL_border_17 : decode cL_border 17 = .ok (.ireturn, 1) := by decide +kernel
theorem eL_border_19 : decode cL_border 19 = .ok (.ireturn, 1) := by decide +kernel
theorem kL_inner_0 : am_dec cL_inner 0 [.aload_n 2, .iconst 0, .aload_n 0, .iload_n 1] 4 = true := by decide +kernel
theorem kL_inner_12 : am_dec cL_inner 12 [.astore_n 3, .iconst 1] 14 = true := by decide +kernel
theorem kL_inner_15 : am_dec cL_inner 15 [.astore_n 3, .iconst 2] 17 = true := by decide +kernel
theorem kL_inner_18 : am_dec cL_inner 18 [.iconst 0] 19 = true := by decide +kernel
theorem eL_inner_4 : decode cL_inner 4 = .ok (.invokevirtual 47, 3) := by decide +kernel
theorem eL_inner_7 : decode cL_inner 7 = .ok (.i2l, 1) := by decide +kernel
theorem eL_inner_8 : decode cL_inner 8 = .ok (.lastore, 1) := by decide +kernel
theorem eL_inner_9 : decode cL_inner 9 = .ok (.goto 9, 3) := by decide +kernel
theorem eL_inner_14 : decode cL_inner 14 = .ok (.ireturn, 1) := by decide +kernel
theorem eL_inner_17 : decode cL_inner 17 = .ok (.ireturn, 1) := by decide +kernel
theorem eL_inner_19 : decode cL_inner 19 = .ok (.ireturn, 1) := by decide +kernel
theorem kL_dents_0 : am_dec cL_dents 0 [.aload_n 2, .iconst 0, .aload_n 0, .iload_n 1] 4 = true := by decide +kernel
theorem kL_dents_12 : am_dec cL_dents 12 [.astore_n 3, .iconst 1] 14 = true := by decide +kernel
theorem kL_dents_15 : am_dec cL_dents 15 [.astore_n 3, .iconst 2] 17 = true := by decide +kernel
theorem kL_dents_18 : am_dec cL_dents 18 [.iconst 0] 19 = true := by decide +kernel
theorem eL_dents_4 : decode cL_dents 4 = .ok (.invokevirtual 50, 3) := by decide +kernel
theorem eL_dents_7 : decode cL_dents 7 = .ok (.i2l, 1) := by decide +kernel
theorem eL_dents_8 : decode cL_dents 8 = .ok (.lastore, 1) := by decide +kernel
theorem eL_dents_9 : decode cL_dents 9 = .ok (.goto 9, 3) := by decide +kernel
theorem eL_dents_14 : decode cL_dents 14 = .ok (.ireturn, 1) := by decide +kernel
theorem eL_dents_17 : decode cL_dents 17 = .ok (.ireturn, 1) := by decide +kernel
theorem eL_dents_19 : decode cL_dents 19 = .ok (.ireturn, 1) := by decide +kernel
theorem kL_parent_0 : am_dec cL_parent 0 [.aload_n 2, .iconst 0, .aload_n 0, .iload_n 1] 4 = true := by decide +kernel
theorem kL_parent_12 : am_dec cL_parent 12 [.astore_n 3, .iconst 1] 14 = true := by decide +kernel
theorem kL_parent_15 : am_dec cL_parent 15 [.astore_n 3, .iconst 2] 17 = true := by decide +kernel
theorem kL_parent_18 : am_dec cL_parent 18 [.iconst 0] 19 = true := by decide +kernel
theorem eL_parent_4 : decode cL_parent 4 = .ok (.invokevirtual 53, 3) := by decide +kernel
theorem eL_parent_7 : decode cL_parent 7 = .ok (.i2l, 1) := by decide +kernel
theorem eL_parent_8 : decode cL_parent 8 = .ok (.lastore, 1) := by decide +kernel
theorem eL_parent_9 : decode cL_parent 9 = .ok (.goto 9, 3) := by decide +kernel
theorem eL_parent_14 : decode cL_parent 14 = .ok (.ireturn, 1) := by decide +kernel
theorem eL_parent_17 : decode cL_parent 17 = .ok (.ireturn, 1) := by decide +kernel
theorem eL_parent_19 : decode cL_parent 19 = .ok (.ireturn, 1) := by decide +kernel
theorem kL_score_0 : am_dec cL_score 0 [.aload_n 2, .iconst 0, .aload_n 0, .iload_n 1] 4 = true := by decide +kernel
theorem kL_score_12 : am_dec cL_score 12 [.astore_n 3, .iconst 1] 14 = true := by decide +kernel
theorem kL_score_15 : am_dec cL_score 15 [.astore_n 3, .iconst 2] 17 = true := by decide +kernel
theorem kL_score_18 : am_dec cL_score 18 [.iconst 0] 19 = true := by decide +kernel
theorem eL_score_4 : decode cL_score 4 = .ok (.invokevirtual 56, 3) := by decide +kernel
theorem eL_score_7 : decode cL_score 7 = .ok (.i2l, 1) := by decide +kernel
theorem eL_score_8 : decode cL_score 8 = .ok (.lastore, 1) := by decide +kernel
theorem eL_score_9 : decode cL_score 9 = .ok (.goto 9, 3) := by decide +kernel
theorem eL_score_14 : decode cL_score 14 = .ok (.ireturn, 1) := by decide +kernel
theorem eL_score_17 : decode cL_score 17 = .ok (.ireturn, 1) := by decide +kernel
theorem eL_score_19 : decode cL_score 19 = .ok (.ireturn, 1) := by decide +kernel
theorem kL_points_0 : am_dec cL_points 0 [.aload_n 2, .iconst 0, .aload_n 0, .iload_n 1] 4 = true := by decide +kernel
theorem kL_points_12 : am_dec cL_points 12 [.astore_n 3, .iconst 1] 14 = true := by decide +kernel
theorem kL_points_15 : am_dec cL_points 15 [.iconst 0] 16 = true := by decide +kernel
theorem eL_points_4 : decode cL_points 4 = .ok (.invokevirtual 59, 3) := by decide +kernel
theorem eL_points_7 : decode cL_points 7 = .ok (.i2l, 1) := by decide +kernel
theorem eL_points_8 : decode cL_points 8 = .ok (.lastore, 1) := by decide +kernel
theorem eL_points_9 : decode cL_points 9 = .ok (.goto 6, 3) := by decide +kernel
theorem eL_points_14 : decode cL_points 14 = .ok (.ireturn, 1) := by decide +kernel
theorem eL_points_16 : decode cL_points 16 = .ok (.ireturn, 1) := by decide +kernel
theorem kL_begin_0 : am_dec cL_begin 0 [.aload 4, .iconst 0, .aload_n 0, .iload_n 1, .iload_n 2, .iload_n 3] 7 = true := by decide +kernel
theorem kL_begin_15 : am_dec cL_begin 15 [.astore 5, .iconst 1] 18 = true := by decide +kernel
theorem kL_begin_19 : am_dec cL_begin 19 [.astore 5, .iconst 2] 22 = true := by decide +kernel
theorem kL_begin_23 : am_dec cL_begin 23 [.iconst 0] 24 = true := by decide +kernel
theorem eL_begin_7 : decode cL_begin 7 = .ok (.invokevirtual 62, 3) := by decide +kernel
theorem eL_begin_10 : decode cL_begin 10 = .ok (.i2l, 1) := by decide +kernel
theorem eL_begin_11 : decode cL_begin 11 = .ok (.lastore, 1) := by decide +kernel
theorem eL_begin_12 : decode cL_begin 12 = .ok (.goto 11, 3) := by decide +kernel
theorem eL_begin_18 : decode cL_begin 18 = .ok (.ireturn, 1) := by decide +kernel
theorem eL_begin_22 : decode cL_begin 22 = .ok (.ireturn, 1) := by decide +kernel
theorem eL_begin_24 : decode cL_begin 24 = .ok (.ireturn, 1) := by decide +kernel
theorem kL_corner_0 : am_dec cL_corner 0 [.aload 4, .iconst 0, .aload_n 0, .iload_n 1, .iload_n 2, .iload_n 3] 7 = true := by decide +kernel
theorem kL_corner_15 : am_dec cL_corner 15 [.astore 5, .iconst 1] 18 = true := by decide +kernel
theorem kL_corner_19 : am_dec cL_corner 19 [.astore 5, .iconst 2] 22 = true := by decide +kernel
theorem kL_corner_23 : am_dec cL_corner 23 [.iconst 0] 24 = true := by decide +kernel
theorem eL_corner_7 : decode cL_corner 7 = .ok (.invokevirtual 65, 3) := by decide +kernel
theorem eL_corner_10 : decode cL_corner 10 = .ok (.i2l, 1) := by decide +kernel
theorem eL_corner_11 : decode cL_corner 11 = .ok (.lastore, 1) := by decide +kernel
theorem eL_corner_12 : decode cL_corner 12 = .ok (.goto 11, 3) := by decide +kernel
theorem eL_corner_18 : decode cL_corner 18 = .ok (.ireturn, 1) := by decide +kernel
theorem eL_corner_22 : decode cL_corner 22 = .ok (.ireturn, 1) := by decide +kernel
theorem eL_corner_24 : decode cL_corner 24 = .ok (.ireturn, 1) := by decide +kernel
theorem kL_close_0 : am_dec cL_close 0 [.aload_n 2, .iconst 0, .aload_n 0, .iload_n 1] 4 = true := by decide +kernel
theorem kL_close_12 : am_dec cL_close 12 [.astore_n 3, .iconst 1] 14 = true := by decide +kernel
theorem kL_close_15 : am_dec cL_close 15 [.iconst 0] 16 = true := by decide +kernel
theorem eL_close_4 : decode cL_close 4 = .ok (.invokevirtual 68, 3) := by decide +kernel
theorem eL_close_7 : decode cL_close 7 = .ok (.i2l, 1) := by decide +kernel
theorem eL_close_8 : decode cL_close 8 = .ok (.lastore, 1) := by decide +kernel
theorem eL_close_9 : decode cL_close 9 = .ok (.goto 6, 3) := by decide +kernel
theorem eL_close_14 : decode cL_close 14 = .ok (.ireturn, 1) := by decide +kernel
theorem eL_close_16 : decode cL_close 16 = .ok (.ireturn, 1) := by decide +kernel
theorem kL_bend_0 : am_dec cL_bend 0 [.aload 5, .iconst 0, .aload_n 0, .iload_n 1, .iload_n 2, .iload_n 3, .iload 4] 9 = true := by decide +kernel
theorem kL_bend_17 : am_dec cL_bend 17 [.astore 6, .iconst 1] 20 = true := by decide +kernel
theorem kL_bend_21 : am_dec cL_bend 21 [.astore 6, .iconst 2] 24 = true := by decide +kernel
theorem kL_bend_25 : am_dec cL_bend 25 [.astore 6, .iconst 3] 28 = true := by decide +kernel
theorem kL_bend_29 : am_dec cL_bend 29 [.iconst 0] 30 = true := by decide +kernel
theorem eL_bend_9 : decode cL_bend 9 = .ok (.invokevirtual 71, 3) := by decide +kernel
theorem eL_bend_12 : decode cL_bend 12 = .ok (.i2l, 1) := by decide +kernel
theorem eL_bend_13 : decode cL_bend 13 = .ok (.lastore, 1) := by decide +kernel
theorem eL_bend_14 : decode cL_bend 14 = .ok (.goto 15, 3) := by decide +kernel
theorem eL_bend_20 : decode cL_bend 20 = .ok (.ireturn, 1) := by decide +kernel
theorem eL_bend_24 : decode cL_bend 24 = .ok (.ireturn, 1) := by decide +kernel
theorem eL_bend_28 : decode cL_bend 28 = .ok (.ireturn, 1) := by decide +kernel
theorem eL_bend_30 : decode cL_bend 30 = .ok (.ireturn, 1) := by decide +kernel
theorem kL_takeOut_0 : am_dec cL_takeOut 0 [.aload_n 3, .iconst 0, .aload_n 0, .iload_n 1, .iload_n 2] 5 = true := by decide +kernel
theorem kL_takeOut_13 : am_dec cL_takeOut 13 [.astore 4, .iconst 1] 16 = true := by decide +kernel
theorem kL_takeOut_17 : am_dec cL_takeOut 17 [.astore 4, .iconst 2] 20 = true := by decide +kernel
theorem kL_takeOut_21 : am_dec cL_takeOut 21 [.iconst 0] 22 = true := by decide +kernel
theorem eL_takeOut_5 : decode cL_takeOut 5 = .ok (.invokevirtual 75, 3) := by decide +kernel
theorem eL_takeOut_8 : decode cL_takeOut 8 = .ok (.i2l, 1) := by decide +kernel
theorem eL_takeOut_9 : decode cL_takeOut 9 = .ok (.lastore, 1) := by decide +kernel
theorem eL_takeOut_10 : decode cL_takeOut 10 = .ok (.goto 11, 3) := by decide +kernel
theorem eL_takeOut_16 : decode cL_takeOut 16 = .ok (.ireturn, 1) := by decide +kernel
theorem eL_takeOut_20 : decode cL_takeOut 20 = .ok (.ireturn, 1) := by decide +kernel
theorem eL_takeOut_22 : decode cL_takeOut 22 = .ok (.ireturn, 1) := by decide +kernel
theorem kL_remove_0 : am_dec cL_remove 0 [.aload_n 2, .iconst 0, .aload_n 0, .iload_n 1] 4 = true := by decide +kernel
theorem kL_remove_12 : am_dec cL_remove 12 [.astore_n 3, .iconst 1] 14 = true := by decide +kernel
theorem kL_remove_15 : am_dec cL_remove 15 [.iconst 0] 16 = true := by decide +kernel
theorem eL_remove_4 : decode cL_remove 4 = .ok (.invokevirtual 78, 3) := by decide +kernel
theorem eL_remove_7 : decode cL_remove 7 = .ok (.i2l, 1) := by decide +kernel
theorem eL_remove_8 : decode cL_remove 8 = .ok (.lastore, 1) := by decide +kernel
theorem eL_remove_9 : decode cL_remove 9 = .ok (.goto 6, 3) := by decide +kernel
theorem eL_remove_14 : decode cL_remove 14 = .ok (.ireturn, 1) := by decide +kernel
theorem eL_remove_16 : decode cL_remove 16 = .ok (.ireturn, 1) := by decide +kernel
theorem kL_law_3 : am_dec cL_law 3 [.dup] 4 = true := by decide +kernel
theorem kL_law_7 : am_dec cL_law 7 [.astore_n 1] 8 = true := by decide +kernel
theorem kL_law_11 : am_dec cL_law 11 [.dup] 12 = true := by decide +kernel
theorem kL_law_15 : am_dec cL_law 15 [.astore_n 2, .iconst 1] 17 = true := by decide +kernel
theorem kL_law_19 : am_dec cL_law 19 [.astore_n 3, .iconst 0, .istore 4] 23 = true := by decide +kernel
theorem kL_law_23 : am_dec cL_law 23 [.iload 4, .aload_n 0] 26 = true := by decide +kernel
theorem kL_law_27 : am_dec cL_law 27 [.bipush 6, .isub] 30 = true := by decide +kernel
theorem kL_law_33 : am_dec cL_law 33 [.aload_n 0, .iload 4] 36 = true := by decide +kernel
theorem kL_law_37 : am_dec cL_law 37 [.bipush 31] 39 = true := by decide +kernel
theorem kL_law_156 : am_dec cL_law 156 [.aload_n 1, .aload_n 0, .iload 4, .iconst 1, .iadd] 162 = true := by decide +kernel
theorem kL_law_163 : am_dec cL_law 163 [.aload_n 0, .iload 4, .iconst 2, .iadd] 168 = true := by decide +kernel
theorem kL_law_169 : am_dec cL_law 169 [.aload_n 0, .iload 4, .iconst 3, .iadd] 174 = true := by decide +kernel
theorem kL_law_175 : am_dec cL_law 175 [.aload_n 0, .iload 4, .iconst 4, .iadd] 180 = true := by decide +kernel
theorem kL_law_181 : am_dec cL_law 181 [.aload_n 0, .iload 4, .iconst 5, .iadd] 186 = true := by decide +kernel
theorem kL_law_190 : am_dec cL_law 190 [.aload_n 2, .aload_n 0, .iload 4, .iconst 1, .iadd] 196 = true := by decide +kernel
theorem kL_law_197 : am_dec cL_law 197 [.aload_n 0, .iload 4, .iconst 2, .iadd] 202 = true := by decide +kernel
theorem kL_law_203 : am_dec cL_law 203 [.aload_n 0, .iload 4, .iconst 3, .iadd] 208 = true := by decide +kernel
theorem kL_law_209 : am_dec cL_law 209 [.aload_n 0, .iload 4, .iconst 4, .iadd] 214 = true := by decide +kernel
theorem kL_law_215 : am_dec cL_law 215 [.aload_n 0, .iload 4, .iconst 5, .iadd] 220 = true := by decide +kernel
theorem kL_law_227 : am_dec cL_law 227 [.iconst 0] 228 = true := by decide +kernel
theorem kL_law_229 : am_dec cL_law 229 [.aload_n 1, .aload_n 0, .iload 4, .iconst 1, .iadd] 235 = true := by decide +kernel
theorem kL_law_236 : am_dec cL_law 236 [.aload_n 3] 237 = true := by decide +kernel
theorem kL_law_240 : am_dec cL_law 240 [.istore 5, .aload_n 2, .aload_n 0, .iload 4, .iconst 1, .iadd] 248 = true := by decide +kernel
theorem kL_law_252 : am_dec cL_law 252 [.istore 6, .aload_n 2] 255 = true := by decide +kernel
theorem kL_law_258 : am_dec cL_law 258 [.iload 5] 260 = true := by decide +kernel
theorem kL_law_263 : am_dec cL_law 263 [.iconst 0] 264 = true := by decide +kernel
theorem kL_law_265 : am_dec cL_law 265 [.iload 5] 267 = true := by decide +kernel
theorem kL_law_270 : am_dec cL_law 270 [.aload_n 3, .iconst 0] 272 = true := by decide +kernel
theorem kL_law_273 : am_dec cL_law 273 [.iload 6] 275 = true := by decide +kernel
theorem kL_law_280 : am_dec cL_law 280 [.iconst 0] 281 = true := by decide +kernel
theorem kL_law_285 : am_dec cL_law 285 [.aload_n 1] 286 = true := by decide +kernel
theorem kL_law_289 : am_dec cL_law 289 [.aload_n 2] 290 = true := by decide +kernel
theorem kL_law_296 : am_dec cL_law 296 [.iconst 0] 297 = true := by decide +kernel
theorem kL_law_298 : am_dec cL_law 298 [.aload_n 1, .aload_n 0, .iload 4, .iconst 1, .iadd] 304 = true := by decide +kernel
theorem kL_law_305 : am_dec cL_law 305 [.aload_n 3] 306 = true := by decide +kernel
theorem kL_law_309 : am_dec cL_law 309 [.istore 5, .aload_n 2, .aload_n 0, .iload 4, .iconst 1, .iadd] 317 = true := by decide +kernel
theorem kL_law_321 : am_dec cL_law 321 [.istore 6, .aload_n 2] 324 = true := by decide +kernel
theorem kL_law_327 : am_dec cL_law 327 [.iload 5] 329 = true := by decide +kernel
theorem kL_law_332 : am_dec cL_law 332 [.iconst 0] 333 = true := by decide +kernel
theorem kL_law_334 : am_dec cL_law 334 [.iload 5] 336 = true := by decide +kernel
theorem kL_law_339 : am_dec cL_law 339 [.aload_n 3, .iconst 0] 341 = true := by decide +kernel
theorem kL_law_342 : am_dec cL_law 342 [.iload 6] 344 = true := by decide +kernel
theorem kL_law_349 : am_dec cL_law 349 [.iconst 0] 350 = true := by decide +kernel
theorem kL_law_354 : am_dec cL_law 354 [.aload_n 1, .aload_n 0, .iload 4, .iconst 1, .iadd] 360 = true := by decide +kernel
theorem kL_law_361 : am_dec cL_law 361 [.aload_n 0, .iload 4, .iconst 2, .iadd] 366 = true := by decide +kernel
theorem kL_law_367 : am_dec cL_law 367 [.aload_n 3] 368 = true := by decide +kernel
theorem kL_law_371 : am_dec cL_law 371 [.istore 5, .aload_n 2, .aload_n 0, .iload 4, .iconst 1, .iadd] 379 = true := by decide +kernel
theorem kL_law_380 : am_dec cL_law 380 [.aload_n 0, .iload 4, .iconst 2, .iadd] 385 = true := by decide +kernel
theorem kL_law_389 : am_dec cL_law 389 [.istore 6, .aload_n 2] 392 = true := by decide +kernel
theorem kL_law_395 : am_dec cL_law 395 [.iload 5] 397 = true := by decide +kernel
theorem kL_law_400 : am_dec cL_law 400 [.iconst 0] 401 = true := by decide +kernel
theorem kL_law_402 : am_dec cL_law 402 [.iload 5] 404 = true := by decide +kernel
theorem kL_law_407 : am_dec cL_law 407 [.aload_n 3, .iconst 0] 409 = true := by decide +kernel
theorem kL_law_410 : am_dec cL_law 410 [.iload 6] 412 = true := by decide +kernel
theorem kL_law_417 : am_dec cL_law 417 [.iconst 0] 418 = true := by decide +kernel
theorem kL_law_422 : am_dec cL_law 422 [.aload_n 1, .aload_n 0, .iload 4, .iconst 1, .iadd] 428 = true := by decide +kernel
theorem kL_law_429 : am_dec cL_law 429 [.aload_n 0, .iload 4, .iconst 2, .iadd] 434 = true := by decide +kernel
theorem kL_law_435 : am_dec cL_law 435 [.aload_n 3] 436 = true := by decide +kernel
theorem kL_law_439 : am_dec cL_law 439 [.istore 5, .aload_n 2, .aload_n 0, .iload 4, .iconst 1, .iadd] 447 = true := by decide +kernel
theorem kL_law_448 : am_dec cL_law 448 [.aload_n 0, .iload 4, .iconst 2, .iadd] 453 = true := by decide +kernel
theorem kL_law_457 : am_dec cL_law 457 [.istore 6, .aload_n 2] 460 = true := by decide +kernel
theorem kL_law_463 : am_dec cL_law 463 [.iload 5] 465 = true := by decide +kernel
theorem kL_law_468 : am_dec cL_law 468 [.iconst 0] 469 = true := by decide +kernel
theorem kL_law_470 : am_dec cL_law 470 [.iload 5] 472 = true := by decide +kernel
theorem kL_law_475 : am_dec cL_law 475 [.aload_n 3, .iconst 0] 477 = true := by decide +kernel
theorem kL_law_478 : am_dec cL_law 478 [.iload 6] 480 = true := by decide +kernel
theorem kL_law_485 : am_dec cL_law 485 [.iconst 0] 486 = true := by decide +kernel
theorem kL_law_490 : am_dec cL_law 490 [.aload_n 1, .aload_n 0, .iload 4, .iconst 1, .iadd] 496 = true := by decide +kernel
theorem kL_law_497 : am_dec cL_law 497 [.aload_n 0, .iload 4, .iconst 2, .iadd] 502 = true := by decide +kernel
theorem kL_law_503 : am_dec cL_law 503 [.aload_n 3] 504 = true := by decide +kernel
theorem kL_law_507 : am_dec cL_law 507 [.istore 5, .aload_n 2, .aload_n 0, .iload 4, .iconst 1, .iadd] 515 = true := by decide +kernel
theorem kL_law_516 : am_dec cL_law 516 [.aload_n 0, .iload 4, .iconst 2, .iadd] 521 = true := by decide +kernel
theorem kL_law_525 : am_dec cL_law 525 [.istore 6, .aload_n 2] 528 = true := by decide +kernel
theorem kL_law_531 : am_dec cL_law 531 [.iload 5] 533 = true := by decide +kernel
theorem kL_law_536 : am_dec cL_law 536 [.iconst 0] 537 = true := by decide +kernel
theorem kL_law_538 : am_dec cL_law 538 [.iload 5] 540 = true := by decide +kernel
theorem kL_law_543 : am_dec cL_law 543 [.aload_n 3, .iconst 0] 545 = true := by decide +kernel
theorem kL_law_546 : am_dec cL_law 546 [.iload 6] 548 = true := by decide +kernel
theorem kL_law_553 : am_dec cL_law 553 [.iconst 0] 554 = true := by decide +kernel
theorem kL_law_558 : am_dec cL_law 558 [.aload_n 1, .aload_n 0, .iload 4, .iconst 1, .iadd] 564 = true := by decide +kernel
theorem kL_law_565 : am_dec cL_law 565 [.aload_n 0, .iload 4, .iconst 2, .iadd] 570 = true := by decide +kernel
theorem kL_law_571 : am_dec cL_law 571 [.aload_n 0, .iload 4, .iconst 3, .iadd] 576 = true := by decide +kernel
theorem kL_law_577 : am_dec cL_law 577 [.aload_n 3] 578 = true := by decide +kernel
theorem kL_law_581 : am_dec cL_law 581 [.istore 5, .aload_n 2, .aload_n 0, .iload 4, .iconst 1, .iadd] 589 = true := by decide +kernel
theorem kL_law_590 : am_dec cL_law 590 [.aload_n 0, .iload 4, .iconst 2, .iadd] 595 = true := by decide +kernel
theorem kL_law_596 : am_dec cL_law 596 [.aload_n 0, .iload 4, .iconst 3, .iadd] 601 = true := by decide +kernel
theorem kL_law_605 : am_dec cL_law 605 [.istore 6, .aload_n 2] 608 = true := by decide +kernel
theorem kL_law_611 : am_dec cL_law 611 [.iload 5] 613 = true := by decide +kernel
theorem kL_law_616 : am_dec cL_law 616 [.iconst 0] 617 = true := by decide +kernel
theorem kL_law_618 : am_dec cL_law 618 [.iload 5] 620 = true := by decide +kernel
theorem kL_law_623 : am_dec cL_law 623 [.aload_n 3, .iconst 0] 625 = true := by decide +kernel
theorem kL_law_626 : am_dec cL_law 626 [.iload 6] 628 = true := by decide +kernel
theorem kL_law_633 : am_dec cL_law 633 [.iconst 0] 634 = true := by decide +kernel
theorem kL_law_638 : am_dec cL_law 638 [.aload_n 1, .aload_n 0, .iload 4, .iconst 1, .iadd] 644 = true := by decide +kernel
theorem kL_law_645 : am_dec cL_law 645 [.aload_n 0, .iload 4, .iconst 2, .iadd] 650 = true := by decide +kernel
theorem kL_law_651 : am_dec cL_law 651 [.aload_n 0, .iload 4, .iconst 3, .iadd] 656 = true := by decide +kernel
theorem kL_law_657 : am_dec cL_law 657 [.aload_n 3] 658 = true := by decide +kernel
theorem kL_law_661 : am_dec cL_law 661 [.istore 5, .aload_n 2, .aload_n 0, .iload 4, .iconst 1, .iadd] 669 = true := by decide +kernel
theorem kL_law_670 : am_dec cL_law 670 [.aload_n 0, .iload 4, .iconst 2, .iadd] 675 = true := by decide +kernel
theorem kL_law_676 : am_dec cL_law 676 [.aload_n 0, .iload 4, .iconst 3, .iadd] 681 = true := by decide +kernel
theorem kL_law_685 : am_dec cL_law 685 [.istore 6, .aload_n 2] 688 = true := by decide +kernel
theorem kL_law_691 : am_dec cL_law 691 [.iload 5] 693 = true := by decide +kernel
theorem kL_law_696 : am_dec cL_law 696 [.iconst 0] 697 = true := by decide +kernel
theorem kL_law_698 : am_dec cL_law 698 [.iload 5] 700 = true := by decide +kernel
theorem kL_law_703 : am_dec cL_law 703 [.aload_n 3, .iconst 0] 705 = true := by decide +kernel
theorem kL_law_706 : am_dec cL_law 706 [.iload 6] 708 = true := by decide +kernel
theorem kL_law_713 : am_dec cL_law 713 [.iconst 0] 714 = true := by decide +kernel
theorem kL_law_718 : am_dec cL_law 718 [.aload_n 1, .aload_n 0, .iload 4, .iconst 1, .iadd] 724 = true := by decide +kernel
theorem kL_law_725 : am_dec cL_law 725 [.aload_n 3] 726 = true := by decide +kernel
theorem kL_law_729 : am_dec cL_law 729 [.istore 5, .aload_n 2, .aload_n 0, .iload 4, .iconst 1, .iadd] 737 = true := by decide +kernel
theorem kL_law_741 : am_dec cL_law 741 [.istore 6, .aload_n 2] 744 = true := by decide +kernel
theorem kL_law_747 : am_dec cL_law 747 [.iload 5] 749 = true := by decide +kernel
theorem kL_law_752 : am_dec cL_law 752 [.iconst 0] 753 = true := by decide +kernel
theorem kL_law_754 : am_dec cL_law 754 [.iload 5] 756 = true := by decide +kernel
theorem kL_law_759 : am_dec cL_law 759 [.aload_n 3, .iconst 0] 761 = true := by decide +kernel
theorem kL_law_762 : am_dec cL_law 762 [.iload 6] 764 = true := by decide +kernel
theorem kL_law_769 : am_dec cL_law 769 [.iconst 0] 770 = true := by decide +kernel
theorem kL_law_774 : am_dec cL_law 774 [.aload_n 1, .aload_n 0, .iload 4, .iconst 1, .iadd] 780 = true := by decide +kernel
theorem kL_law_781 : am_dec cL_law 781 [.aload_n 3] 782 = true := by decide +kernel
theorem kL_law_785 : am_dec cL_law 785 [.istore 5, .aload_n 2, .aload_n 0, .iload 4, .iconst 1, .iadd] 793 = true := by decide +kernel
theorem kL_law_797 : am_dec cL_law 797 [.istore 6, .aload_n 2] 800 = true := by decide +kernel
theorem kL_law_803 : am_dec cL_law 803 [.iload 5] 805 = true := by decide +kernel
theorem kL_law_808 : am_dec cL_law 808 [.iconst 0] 809 = true := by decide +kernel
theorem kL_law_810 : am_dec cL_law 810 [.iload 5] 812 = true := by decide +kernel
theorem kL_law_815 : am_dec cL_law 815 [.aload_n 3, .iconst 0] 817 = true := by decide +kernel
theorem kL_law_818 : am_dec cL_law 818 [.iload 6] 820 = true := by decide +kernel
theorem kL_law_825 : am_dec cL_law 825 [.iconst 0] 826 = true := by decide +kernel
theorem kL_law_830 : am_dec cL_law 830 [.aload_n 1, .aload_n 0, .iload 4, .iconst 1, .iadd] 836 = true := by decide +kernel
theorem kL_law_837 : am_dec cL_law 837 [.aload_n 3] 838 = true := by decide +kernel
theorem kL_law_841 : am_dec cL_law 841 [.istore 5, .aload_n 2, .aload_n 0, .iload 4, .iconst 1, .iadd] 849 = true := by decide +kernel
theorem kL_law_853 : am_dec cL_law 853 [.istore 6, .aload_n 2] 856 = true := by decide +kernel
theorem kL_law_859 : am_dec cL_law 859 [.iload 5] 861 = true := by decide +kernel
theorem kL_law_864 : am_dec cL_law 864 [.iconst 0] 865 = true := by decide +kernel
theorem kL_law_866 : am_dec cL_law 866 [.iload 5] 868 = true := by decide +kernel
theorem kL_law_871 : am_dec cL_law 871 [.aload_n 3, .iconst 0] 873 = true := by decide +kernel
theorem kL_law_874 : am_dec cL_law 874 [.iload 6] 876 = true := by decide +kernel
theorem kL_law_881 : am_dec cL_law 881 [.iconst 0] 882 = true := by decide +kernel
theorem kL_law_886 : am_dec cL_law 886 [.aload_n 1, .aload_n 0, .iload 4, .iconst 1, .iadd] 892 = true := by decide +kernel
theorem kL_law_893 : am_dec cL_law 893 [.aload_n 3] 894 = true := by decide +kernel
theorem kL_law_897 : am_dec cL_law 897 [.istore 5, .aload_n 2, .aload_n 0, .iload 4, .iconst 1, .iadd] 905 = true := by decide +kernel
theorem kL_law_909 : am_dec cL_law 909 [.istore 6, .aload_n 2] 912 = true := by decide +kernel
theorem kL_law_915 : am_dec cL_law 915 [.iload 5] 917 = true := by decide +kernel
theorem kL_law_920 : am_dec cL_law 920 [.iconst 0] 921 = true := by decide +kernel
theorem kL_law_922 : am_dec cL_law 922 [.iload 5] 924 = true := by decide +kernel
theorem kL_law_927 : am_dec cL_law 927 [.aload_n 3, .iconst 0] 929 = true := by decide +kernel
theorem kL_law_930 : am_dec cL_law 930 [.iload 6] 932 = true := by decide +kernel
theorem kL_law_937 : am_dec cL_law 937 [.iconst 0] 938 = true := by decide +kernel
theorem kL_law_942 : am_dec cL_law 942 [.aload_n 1, .aload_n 0, .iload 4, .iconst 1, .iadd] 948 = true := by decide +kernel
theorem kL_law_949 : am_dec cL_law 949 [.aload_n 3] 950 = true := by decide +kernel
theorem kL_law_953 : am_dec cL_law 953 [.istore 5, .aload_n 2, .aload_n 0, .iload 4, .iconst 1, .iadd] 961 = true := by decide +kernel
theorem kL_law_965 : am_dec cL_law 965 [.istore 6, .aload_n 2] 968 = true := by decide +kernel
theorem kL_law_971 : am_dec cL_law 971 [.iload 5] 973 = true := by decide +kernel
theorem kL_law_976 : am_dec cL_law 976 [.iconst 0] 977 = true := by decide +kernel
theorem kL_law_978 : am_dec cL_law 978 [.iload 5] 980 = true := by decide +kernel
theorem kL_law_983 : am_dec cL_law 983 [.aload_n 3, .iconst 0] 985 = true := by decide +kernel
theorem kL_law_986 : am_dec cL_law 986 [.iload 6] 988 = true := by decide +kernel
theorem kL_law_993 : am_dec cL_law 993 [.iconst 0] 994 = true := by decide +kernel
theorem kL_law_998 : am_dec cL_law 998 [.aload_n 1, .aload_n 0, .iload 4, .iconst 1, .iadd] 1004 = true := by decide +kernel
theorem kL_law_1005 : am_dec cL_law 1005 [.aload_n 3] 1006 = true := by decide +kernel
theorem kL_law_1009 : am_dec cL_law 1009 [.istore 5, .aload_n 2, .aload_n 0, .iload 4, .iconst 1, .iadd] 1017 = true := by decide +kernel
theorem kL_law_1021 : am_dec cL_law 1021 [.istore 6, .aload_n 2] 1024 = true := by decide +kernel
theorem kL_law_1027 : am_dec cL_law 1027 [.iload 5] 1029 = true := by decide +kernel
theorem kL_law_1032 : am_dec cL_law 1032 [.iconst 0] 1033 = true := by decide +kernel
theorem kL_law_1034 : am_dec cL_law 1034 [.iload 5] 1036 = true := by decide +kernel
theorem kL_law_1039 : am_dec cL_law 1039 [.aload_n 3, .iconst 0] 1041 = true := by decide +kernel
theorem kL_law_1042 : am_dec cL_law 1042 [.iload 6] 1044 = true := by decide +kernel
theorem kL_law_1049 : am_dec cL_law 1049 [.iconst 0] 1050 = true := by decide +kernel
theorem kL_law_1054 : am_dec cL_law 1054 [.aload_n 1, .aload_n 0, .iload 4, .iconst 1, .iadd] 1060 = true := by decide +kernel
theorem kL_law_1061 : am_dec cL_law 1061 [.aload_n 3] 1062 = true := by decide +kernel
theorem kL_law_1065 : am_dec cL_law 1065 [.istore 5, .aload_n 2, .aload_n 0, .iload 4, .iconst 1, .iadd] 1073 = true := by decide +kernel
theorem kL_law_1077 : am_dec cL_law 1077 [.istore 6, .aload_n 2] 1080 = true := by decide +kernel
theorem kL_law_1083 : am_dec cL_law 1083 [.iload 5] 1085 = true := by decide +kernel
theorem kL_law_1088 : am_dec cL_law 1088 [.iconst 0] 1089 = true := by decide +kernel
theorem kL_law_1090 : am_dec cL_law 1090 [.iload 5] 1092 = true := by decide +kernel
theorem kL_law_1095 : am_dec cL_law 1095 [.aload_n 3, .iconst 0] 1097 = true := by decide +kernel
theorem kL_law_1098 : am_dec cL_law 1098 [.iload 6] 1100 = true := by decide +kernel
theorem kL_law_1105 : am_dec cL_law 1105 [.iconst 0] 1106 = true := by decide +kernel
theorem kL_law_1110 : am_dec cL_law 1110 [.aload_n 1] 1111 = true := by decide +kernel
theorem kL_law_1114 : am_dec cL_law 1114 [.aload_n 2] 1115 = true := by decide +kernel
theorem kL_law_1121 : am_dec cL_law 1121 [.iconst 0] 1122 = true := by decide +kernel
theorem kL_law_1123 : am_dec cL_law 1123 [.aload_n 1, .aload_n 0, .iload 4, .iconst 1, .iadd] 1129 = true := by decide +kernel
theorem kL_law_1130 : am_dec cL_law 1130 [.aload_n 0, .iload 4, .iconst 2, .iadd] 1135 = true := by decide +kernel
theorem kL_law_1136 : am_dec cL_law 1136 [.aload_n 0, .iload 4, .iconst 3, .iadd] 1141 = true := by decide +kernel
theorem kL_law_1142 : am_dec cL_law 1142 [.aload_n 3] 1143 = true := by decide +kernel
theorem kL_law_1146 : am_dec cL_law 1146 [.istore 5, .aload_n 2, .aload_n 0, .iload 4, .iconst 1, .iadd] 1154 = true := by decide +kernel
theorem kL_law_1155 : am_dec cL_law 1155 [.aload_n 0, .iload 4, .iconst 2, .iadd] 1160 = true := by decide +kernel
theorem kL_law_1161 : am_dec cL_law 1161 [.aload_n 0, .iload 4, .iconst 3, .iadd] 1166 = true := by decide +kernel
theorem kL_law_1170 : am_dec cL_law 1170 [.istore 6, .aload_n 2] 1173 = true := by decide +kernel
theorem kL_law_1176 : am_dec cL_law 1176 [.iload 5] 1178 = true := by decide +kernel
theorem kL_law_1181 : am_dec cL_law 1181 [.iconst 0] 1182 = true := by decide +kernel
theorem kL_law_1183 : am_dec cL_law 1183 [.iload 5] 1185 = true := by decide +kernel
theorem kL_law_1188 : am_dec cL_law 1188 [.aload_n 3, .iconst 0] 1190 = true := by decide +kernel
theorem kL_law_1191 : am_dec cL_law 1191 [.iload 6] 1193 = true := by decide +kernel
theorem kL_law_1198 : am_dec cL_law 1198 [.iconst 0] 1199 = true := by decide +kernel
theorem kL_law_1203 : am_dec cL_law 1203 [.aload_n 1, .aload_n 0, .iload 4, .iconst 1, .iadd] 1209 = true := by decide +kernel
theorem kL_law_1210 : am_dec cL_law 1210 [.aload_n 0, .iload 4, .iconst 2, .iadd] 1215 = true := by decide +kernel
theorem kL_law_1216 : am_dec cL_law 1216 [.aload_n 0, .iload 4, .iconst 3, .iadd] 1221 = true := by decide +kernel
theorem kL_law_1222 : am_dec cL_law 1222 [.aload_n 3] 1223 = true := by decide +kernel
theorem kL_law_1226 : am_dec cL_law 1226 [.istore 5, .aload_n 2, .aload_n 0, .iload 4, .iconst 1, .iadd] 1234 = true := by decide +kernel
theorem kL_law_1235 : am_dec cL_law 1235 [.aload_n 0, .iload 4, .iconst 2, .iadd] 1240 = true := by decide +kernel
theorem kL_law_1241 : am_dec cL_law 1241 [.aload_n 0, .iload 4, .iconst 3, .iadd] 1246 = true := by decide +kernel
theorem kL_law_1250 : am_dec cL_law 1250 [.istore 6, .aload_n 2] 1253 = true := by decide +kernel
theorem kL_law_1256 : am_dec cL_law 1256 [.iload 5] 1258 = true := by decide +kernel
theorem kL_law_1261 : am_dec cL_law 1261 [.iconst 0] 1262 = true := by decide +kernel
theorem kL_law_1263 : am_dec cL_law 1263 [.iload 5] 1265 = true := by decide +kernel
theorem kL_law_1268 : am_dec cL_law 1268 [.aload_n 3, .iconst 0] 1270 = true := by decide +kernel
theorem kL_law_1271 : am_dec cL_law 1271 [.iload 6] 1273 = true := by decide +kernel
theorem kL_law_1278 : am_dec cL_law 1278 [.iconst 0] 1279 = true := by decide +kernel
theorem kL_law_1283 : am_dec cL_law 1283 [.aload_n 1, .aload_n 0, .iload 4, .iconst 1, .iadd] 1289 = true := by decide +kernel
theorem kL_law_1290 : am_dec cL_law 1290 [.aload_n 3] 1291 = true := by decide +kernel
theorem kL_law_1294 : am_dec cL_law 1294 [.istore 5, .aload_n 2, .aload_n 0, .iload 4, .iconst 1, .iadd] 1302 = true := by decide +kernel
theorem kL_law_1306 : am_dec cL_law 1306 [.istore 6, .aload_n 2] 1309 = true := by decide +kernel
theorem kL_law_1312 : am_dec cL_law 1312 [.iload 5] 1314 = true := by decide +kernel
theorem kL_law_1317 : am_dec cL_law 1317 [.iconst 0] 1318 = true := by decide +kernel
theorem kL_law_1319 : am_dec cL_law 1319 [.iload 5] 1321 = true := by decide +kernel
theorem kL_law_1324 : am_dec cL_law 1324 [.aload_n 3, .iconst 0] 1326 = true := by decide +kernel
theorem kL_law_1327 : am_dec cL_law 1327 [.iload 6] 1329 = true := by decide +kernel
theorem kL_law_1334 : am_dec cL_law 1334 [.iconst 0] 1335 = true := by decide +kernel
theorem kL_law_1339 : am_dec cL_law 1339 [.aload_n 1, .aload_n 0, .iload 4, .iconst 1, .iadd] 1345 = true := by decide +kernel
theorem kL_law_1346 : am_dec cL_law 1346 [.aload_n 0, .iload 4, .iconst 2, .iadd] 1351 = true := by decide +kernel
theorem kL_law_1352 : am_dec cL_law 1352 [.aload_n 0, .iload 4, .iconst 3, .iadd] 1357 = true := by decide +kernel
theorem kL_law_1358 : am_dec cL_law 1358 [.aload_n 0, .iload 4, .iconst 4, .iadd] 1363 = true := by decide +kernel
theorem kL_law_1364 : am_dec cL_law 1364 [.aload_n 3] 1365 = true := by decide +kernel
theorem kL_law_1368 : am_dec cL_law 1368 [.istore 5, .aload_n 2, .aload_n 0, .iload 4, .iconst 1, .iadd] 1376 = true := by decide +kernel
theorem kL_law_1377 : am_dec cL_law 1377 [.aload_n 0, .iload 4, .iconst 2, .iadd] 1382 = true := by decide +kernel
theorem kL_law_1383 : am_dec cL_law 1383 [.aload_n 0, .iload 4, .iconst 3, .iadd] 1388 = true := by decide +kernel
theorem kL_law_1389 : am_dec cL_law 1389 [.aload_n 0, .iload 4, .iconst 4, .iadd] 1394 = true := by decide +kernel
theorem kL_law_1398 : am_dec cL_law 1398 [.istore 6, .aload_n 2] 1401 = true := by decide +kernel
theorem kL_law_1404 : am_dec cL_law 1404 [.iload 5] 1406 = true := by decide +kernel
theorem kL_law_1409 : am_dec cL_law 1409 [.iconst 0] 1410 = true := by decide +kernel
theorem kL_law_1411 : am_dec cL_law 1411 [.iload 5] 1413 = true := by decide +kernel
theorem kL_law_1416 : am_dec cL_law 1416 [.aload_n 3, .iconst 0] 1418 = true := by decide +kernel
theorem kL_law_1419 : am_dec cL_law 1419 [.iload 6] 1421 = true := by decide +kernel
theorem kL_law_1426 : am_dec cL_law 1426 [.iconst 0] 1427 = true := by decide +kernel
theorem kL_law_1431 : am_dec cL_law 1431 [.aload_n 1, .aload_n 0, .iload 4, .iconst 1, .iadd] 1437 = true := by decide +kernel
theorem kL_law_1438 : am_dec cL_law 1438 [.aload_n 0, .iload 4, .iconst 2, .iadd] 1443 = true := by decide +kernel
theorem kL_law_1444 : am_dec cL_law 1444 [.aload_n 3] 1445 = true := by decide +kernel
theorem kL_law_1448 : am_dec cL_law 1448 [.istore 5, .aload_n 2, .aload_n 0, .iload 4, .iconst 1, .iadd] 1456 = true := by decide +kernel
theorem kL_law_1457 : am_dec cL_law 1457 [.aload_n 0, .iload 4, .iconst 2, .iadd] 1462 = true := by decide +kernel
theorem kL_law_1466 : am_dec cL_law 1466 [.istore 6, .aload_n 2] 1469 = true := by decide +kernel
theorem kL_law_1472 : am_dec cL_law 1472 [.iload 5] 1474 = true := by decide +kernel
theorem kL_law_1477 : am_dec cL_law 1477 [.iconst 0] 1478 = true := by decide +kernel
theorem kL_law_1479 : am_dec cL_law 1479 [.iload 5] 1481 = true := by decide +kernel
theorem kL_law_1484 : am_dec cL_law 1484 [.aload_n 3, .iconst 0] 1486 = true := by decide +kernel
theorem kL_law_1487 : am_dec cL_law 1487 [.iload 6] 1489 = true := by decide +kernel
theorem kL_law_1494 : am_dec cL_law 1494 [.iconst 0] 1495 = true := by decide +kernel
theorem kL_law_1499 : am_dec cL_law 1499 [.aload_n 1, .aload_n 0, .iload 4, .iconst 1, .iadd] 1505 = true := by decide +kernel
theorem kL_law_1506 : am_dec cL_law 1506 [.aload_n 3] 1507 = true := by decide +kernel
theorem kL_law_1510 : am_dec cL_law 1510 [.istore 5, .aload_n 2, .aload_n 0, .iload 4, .iconst 1, .iadd] 1518 = true := by decide +kernel
theorem kL_law_1522 : am_dec cL_law 1522 [.istore 6, .aload_n 2] 1525 = true := by decide +kernel
theorem kL_law_1528 : am_dec cL_law 1528 [.iload 5] 1530 = true := by decide +kernel
theorem kL_law_1533 : am_dec cL_law 1533 [.iconst 0] 1534 = true := by decide +kernel
theorem kL_law_1535 : am_dec cL_law 1535 [.iload 5] 1537 = true := by decide +kernel
theorem kL_law_1540 : am_dec cL_law 1540 [.aload_n 3, .iconst 0] 1542 = true := by decide +kernel
theorem kL_law_1543 : am_dec cL_law 1543 [.iload 6] 1545 = true := by decide +kernel
theorem kL_law_1550 : am_dec cL_law 1550 [.iconst 0] 1551 = true := by decide +kernel
theorem kL_law_1555 : am_dec cL_law 1555 [.aload_n 1] 1556 = true := by decide +kernel
theorem kL_law_1559 : am_dec cL_law 1559 [.aload_n 2] 1560 = true := by decide +kernel
theorem kL_law_1566 : am_dec cL_law 1566 [.iconst 0] 1567 = true := by decide +kernel
theorem kL_law_1568 : am_dec cL_law 1568 [.aload_n 1] 1569 = true := by decide +kernel
theorem kL_law_1572 : am_dec cL_law 1572 [.aload_n 2] 1573 = true := by decide +kernel
theorem kL_law_1580 : am_dec cL_law 1580 [.iconst 0] 1581 = true := by decide +kernel
theorem kL_law_1582 : am_dec cL_law 1582 [.iinc 4 6] 1585 = true := by decide +kernel
theorem kL_law_1588 : am_dec cL_law 1588 [.iconst 1] 1589 = true := by decide +kernel
theorem eL_law_0 : decode cL_law 0 = .ok (.new 8, 3) := by decide +kernel
theorem eL_law_4 : decode cL_law 4 = .ok (.invokespecial 81, 3) := by decide +kernel
theorem eL_law_8 : decode cL_law 8 = .ok (.new 82, 3) := by decide +kernel
theorem eL_law_12 : decode cL_law 12 = .ok (.invokespecial 84, 3) := by decide +kernel
theorem eL_law_17 : decode cL_law 17 = .ok (.newarray .long, 2) := by decide +kernel
theorem eL_law_26 : decode cL_law 26 = .ok (.arraylength, 1) := by decide +kernel
theorem eL_law_30 : decode cL_law 30 = .ok (.if_icmp .gt 1558, 3) := by decide +kernel
theorem eL_law_36 : decode cL_law 36 = .ok (.iaload, 1) := by decide +kernel
theorem eL_law_39 : decode cL_law 39 = .ok (.iand, 1) := by decide +kernel
theorem eL_law_40 : decode cL_law 40 = .ok (.tableswitch 1542 0 24 #[116, 189, 245, 258, 314, 382, 450, 518, 598, 678, 734, 790, 846, 902, 958, 1014, 1070, 1083, 1163, 1243, 1299, 1391, 1459, 1515, 1528], 116) := by decide +kernel
theorem eL_law_162 : decode cL_law 162 = .ok (.iaload, 1) := by decide +kernel
theorem eL_law_168 : decode cL_law 168 = .ok (.iaload, 1) := by decide +kernel
theorem eL_law_174 : decode cL_law 174 = .ok (.iaload, 1) := by decide +kernel
theorem eL_law_180 : decode cL_law 180 = .ok (.iaload, 1) := by decide +kernel
theorem eL_law_186 : decode cL_law 186 = .ok (.iaload, 1) := by decide +kernel
theorem eL_law_187 : decode cL_law 187 = .ok (.invokevirtual 85, 3) := by decide +kernel
theorem eL_law_196 : decode cL_law 196 = .ok (.iaload, 1) := by decide +kernel
theorem eL_law_202 : decode cL_law 202 = .ok (.iaload, 1) := by decide +kernel
theorem eL_law_208 : decode cL_law 208 = .ok (.iaload, 1) := by decide +kernel
theorem eL_law_214 : decode cL_law 214 = .ok (.iaload, 1) := by decide +kernel
theorem eL_law_220 : decode cL_law 220 = .ok (.iaload, 1) := by decide +kernel
theorem eL_law_221 : decode cL_law 221 = .ok (.invokevirtual 89, 3) := by decide +kernel
theorem eL_law_224 : decode cL_law 224 = .ok (.if_icmp .eq 1358, 3) := by decide +kernel
theorem eL_law_228 : decode cL_law 228 = .ok (.ireturn, 1) := by decide +kernel
theorem eL_law_235 : decode cL_law 235 = .ok (.iaload, 1) := by decide +kernel
theorem eL_law_237 : decode cL_law 237 = .ok (.invokestatic 90, 3) := by decide +kernel
theorem eL_law_248 : decode cL_law 248 = .ok (.iaload, 1) := by decide +kernel
theorem eL_law_249 : decode cL_law 249 = .ok (.invokevirtual 95, 3) := by decide +kernel
theorem eL_law_255 : decode cL_law 255 = .ok (.invokevirtual 96, 3) := by decide +kernel
theorem eL_law_260 : decode cL_law 260 = .ok (.if_icmp .eq 5, 3) := by decide +kernel
theorem eL_law_264 : decode cL_law 264 = .ok (.ireturn, 1) := by decide +kernel
theorem eL_law_267 : decode cL_law 267 = .ok (.ifCond .ne 15, 3) := by decide +kernel
theorem eL_law_272 : decode cL_law 272 = .ok (.laload, 1) := by decide +kernel
theorem eL_law_275 : decode cL_law 275 = .ok (.i2l, 1) := by decide +kernel
theorem eL_law_276 : decode cL_law 276 = .ok (.lcmp, 1) := by decide +kernel
theorem eL_law_277 : decode cL_law 277 = .ok (.ifCond .eq 5, 3) := by decide +kernel
theorem eL_law_281 : decode cL_law 281 = .ok (.ireturn, 1) := by decide +kernel
theorem eL_law_282 : decode cL_law 282 = .ok (.goto 1300, 3) := by decide +kernel
theorem eL_law_286 : decode cL_law 286 = .ok (.invokevirtual 100, 3) := by decide +kernel
theorem eL_law_290 : decode cL_law 290 = .ok (.invokevirtual 103, 3) := by decide +kernel
theorem eL_law_293 : decode cL_law 293 = .ok (.if_icmp .eq 1289, 3) := by decide +kernel
theorem eL_law_297 : decode cL_law 297 = .ok (.ireturn, 1) := by decide +kernel
theorem eL_law_304 : decode cL_law 304 = .ok (.iaload, 1) := by decide +kernel
theorem eL_law_306 : decode cL_law 306 = .ok (.invokestatic 104, 3) := by decide +kernel
theorem eL_law_317 : decode cL_law 317 = .ok (.iaload, 1) := by decide +kernel
theorem eL_law_318 : decode cL_law 318 = .ok (.invokevirtual 106, 3) := by decide +kernel
theorem eL_law_324 : decode cL_law 324 = .ok (.invokevirtual 96, 3) := by decide +kernel
theorem eL_law_329 : decode cL_law 329 = .ok (.if_icmp .eq 5, 3) := by decide +kernel
theorem eL_law_333 : decode cL_law 333 = .ok (.ireturn, 1) := by decide +kernel
theorem eL_law_336 : decode cL_law 336 = .ok (.ifCond .ne 15, 3) := by decide +kernel
theorem eL_law_341 : decode cL_law 341 = .ok (.laload, 1) := by decide +kernel
theorem eL_law_344 : decode cL_law 344 = .ok (.i2l, 1) := by decide +kernel
theorem eL_law_345 : decode cL_law 345 = .ok (.lcmp, 1) := by decide +kernel
theorem eL_law_346 : decode cL_law 346 = .ok (.ifCond .eq 5, 3) := by decide +kernel
theorem eL_law_350 : decode cL_law 350 = .ok (.ireturn, 1) := by decide +kernel
theorem eL_law_351 : decode cL_law 351 = .ok (.goto 1231, 3) := by decide +kernel
theorem eL_law_360 : decode cL_law 360 = .ok (.iaload, 1) := by decide +kernel
theorem eL_law_366 : decode cL_law 366 = .ok (.iaload, 1) := by decide +kernel
theorem eL_law_368 : decode cL_law 368 = .ok (.invokestatic 107, 3) := by decide +kernel
theorem eL_law_379 : decode cL_law 379 = .ok (.iaload, 1) := by decide +kernel
theorem eL_law_385 : decode cL_law 385 = .ok (.iaload, 1) := by decide +kernel
theorem eL_law_386 : decode cL_law 386 = .ok (.invokevirtual 110, 3) := by decide +kernel
theorem eL_law_392 : decode cL_law 392 = .ok (.invokevirtual 96, 3) := by decide +kernel
theorem eL_law_397 : decode cL_law 397 = .ok (.if_icmp .eq 5, 3) := by decide +kernel
theorem eL_law_401 : decode cL_law 401 = .ok (.ireturn, 1) := by decide +kernel
theorem eL_law_404 : decode cL_law 404 = .ok (.ifCond .ne 15, 3) := by decide +kernel
theorem eL_law_409 : decode cL_law 409 = .ok (.laload, 1) := by decide +kernel
theorem eL_law_412 : decode cL_law 412 = .ok (.i2l, 1) := by decide +kernel
theorem eL_law_413 : decode cL_law 413 = .ok (.lcmp, 1) := by decide +kernel
theorem eL_law_414 : decode cL_law 414 = .ok (.ifCond .eq 5, 3) := by decide +kernel
theorem eL_law_418 : decode cL_law 418 = .ok (.ireturn, 1) := by decide +kernel
theorem eL_law_419 : decode cL_law 419 = .ok (.goto 1163, 3) := by decide +kernel
theorem eL_law_428 : decode cL_law 428 = .ok (.iaload, 1) := by decide +kernel
theorem eL_law_434 : decode cL_law 434 = .ok (.iaload, 1) := by decide +kernel
theorem eL_law_436 : decode cL_law 436 = .ok (.invokestatic 111, 3) := by decide +kernel
theorem eL_law_447 : decode cL_law 447 = .ok (.iaload, 1) := by decide +kernel
theorem eL_law_453 : decode cL_law 453 = .ok (.iaload, 1) := by decide +kernel
theorem eL_law_454 : decode cL_law 454 = .ok (.invokevirtual 113, 3) := by decide +kernel
theorem eL_law_460 : decode cL_law 460 = .ok (.invokevirtual 96, 3) := by decide +kernel
theorem eL_law_465 : decode cL_law 465 = .ok (.if_icmp .eq 5, 3) := by decide +kernel
theorem eL_law_469 : decode cL_law 469 = .ok (.ireturn, 1) := by decide +kernel
theorem eL_law_472 : decode cL_law 472 = .ok (.ifCond .ne 15, 3) := by decide +kernel
theorem eL_law_477 : decode cL_law 477 = .ok (.laload, 1) := by decide +kernel
theorem eL_law_480 : decode cL_law 480 = .ok (.i2l, 1) := by decide +kernel
theorem eL_law_481 : decode cL_law 481 = .ok (.lcmp, 1) := by decide +kernel
theorem eL_law_482 : decode cL_law 482 = .ok (.ifCond .eq 5, 3) := by decide +kernel
theorem eL_law_486 : decode cL_law 486 = .ok (.ireturn, 1) := by decide +kernel
theorem eL_law_487 : decode cL_law 487 = .ok (.goto 1095, 3) := by decide +kernel
theorem eL_law_496 : decode cL_law 496 = .ok (.iaload, 1) := by decide +kernel
theorem eL_law_502 : decode cL_law 502 = .ok (.iaload, 1) := by decide +kernel
theorem eL_law_504 : decode cL_law 504 = .ok (.invokestatic 114, 3) := by decide +kernel
theorem eL_law_515 : decode cL_law 515 = .ok (.iaload, 1) := by decide +kernel
theorem eL_law_521 : decode cL_law 521 = .ok (.iaload, 1) := by decide +kernel
theorem eL_law_522 : decode cL_law 522 = .ok (.invokevirtual 116, 3) := by decide +kernel
theorem eL_law_528 : decode cL_law 528 = .ok (.invokevirtual 96, 3) := by decide +kernel
theorem eL_law_533 : decode cL_law 533 = .ok (.if_icmp .eq 5, 3) := by decide +kernel
theorem eL_law_537 : decode cL_law 537 = .ok (.ireturn, 1) := by decide +kernel
theorem eL_law_540 : decode cL_law 540 = .ok (.ifCond .ne 15, 3) := by decide +kernel
theorem eL_law_545 : decode cL_law 545 = .ok (.laload, 1) := by decide +kernel
theorem eL_law_548 : decode cL_law 548 = .ok (.i2l, 1) := by decide +kernel
theorem eL_law_549 : decode cL_law 549 = .ok (.lcmp, 1) := by decide +kernel
theorem eL_law_550 : decode cL_law 550 = .ok (.ifCond .eq 5, 3) := by decide +kernel
theorem eL_law_554 : decode cL_law 554 = .ok (.ireturn, 1) := by decide +kernel
theorem eL_law_555 : decode cL_law 555 = .ok (.goto 1027, 3) := by decide +kernel
theorem eL_law_564 : decode cL_law 564 = .ok (.iaload, 1) := by decide +kernel
theorem eL_law_570 : decode cL_law 570 = .ok (.iaload, 1) := by decide +kernel
theorem eL_law_576 : decode cL_law 576 = .ok (.iaload, 1) := by decide +kernel
theorem eL_law_578 : decode cL_law 578 = .ok (.invokestatic 117, 3) := by decide +kernel
theorem eL_law_589 : decode cL_law 589 = .ok (.iaload, 1) := by decide +kernel
theorem eL_law_595 : decode cL_law 595 = .ok (.iaload, 1) := by decide +kernel
theorem eL_law_601 : decode cL_law 601 = .ok (.iaload, 1) := by decide +kernel
theorem eL_law_602 : decode cL_law 602 = .ok (.invokevirtual 120, 3) := by decide +kernel
theorem eL_law_608 : decode cL_law 608 = .ok (.invokevirtual 96, 3) := by decide +kernel
theorem eL_law_613 : decode cL_law 613 = .ok (.if_icmp .eq 5, 3) := by decide +kernel
theorem eL_law_617 : decode cL_law 617 = .ok (.ireturn, 1) := by decide +kernel
theorem eL_law_620 : decode cL_law 620 = .ok (.ifCond .ne 15, 3) := by decide +kernel
theorem eL_law_625 : decode cL_law 625 = .ok (.laload, 1) := by decide +kernel
theorem eL_law_628 : decode cL_law 628 = .ok (.i2l, 1) := by decide +kernel
theorem eL_law_629 : decode cL_law 629 = .ok (.lcmp, 1) := by decide +kernel
theorem eL_law_630 : decode cL_law 630 = .ok (.ifCond .eq 5, 3) := by decide +kernel
theorem eL_law_634 : decode cL_law 634 = .ok (.ireturn, 1) := by decide +kernel
theorem eL_law_635 : decode cL_law 635 = .ok (.goto 947, 3) := by decide +kernel
theorem eL_law_644 : decode cL_law 644 = .ok (.iaload, 1) := by decide +kernel
theorem eL_law_650 : decode cL_law 650 = .ok (.iaload, 1) := by decide +kernel
theorem eL_law_656 : decode cL_law 656 = .ok (.iaload, 1) := by decide +kernel
theorem eL_law_658 : decode cL_law 658 = .ok (.invokestatic 121, 3) := by decide +kernel
theorem eL_law_669 : decode cL_law 669 = .ok (.iaload, 1) := by decide +kernel
theorem eL_law_675 : decode cL_law 675 = .ok (.iaload, 1) := by decide +kernel
theorem eL_law_681 : decode cL_law 681 = .ok (.iaload, 1) := by decide +kernel
theorem eL_law_682 : decode cL_law 682 = .ok (.invokevirtual 123, 3) := by decide +kernel
theorem eL_law_688 : decode cL_law 688 = .ok (.invokevirtual 96, 3) := by decide +kernel
theorem eL_law_693 : decode cL_law 693 = .ok (.if_icmp .eq 5, 3) := by decide +kernel
theorem eL_law_697 : decode cL_law 697 = .ok (.ireturn, 1) := by decide +kernel
theorem eL_law_700 : decode cL_law 700 = .ok (.ifCond .ne 15, 3) := by decide +kernel
theorem eL_law_705 : decode cL_law 705 = .ok (.laload, 1) := by decide +kernel
theorem eL_law_708 : decode cL_law 708 = .ok (.i2l, 1) := by decide +kernel
theorem eL_law_709 : decode cL_law 709 = .ok (.lcmp, 1) := by decide +kernel
theorem eL_law_710 : decode cL_law 710 = .ok (.ifCond .eq 5, 3) := by decide +kernel
theorem eL_law_714 : decode cL_law 714 = .ok (.ireturn, 1) := by decide +kernel
theorem eL_law_715 : decode cL_law 715 = .ok (.goto 867, 3) := by decide +kernel
theorem eL_law_724 : decode cL_law 724 = .ok (.iaload, 1) := by decide +kernel
theorem eL_law_726 : decode cL_law 726 = .ok (.invokestatic 124, 3) := by decide +kernel
theorem eL_law_737 : decode cL_law 737 = .ok (.iaload, 1) := by decide +kernel
theorem eL_law_738 : decode cL_law 738 = .ok (.invokevirtual 126, 3) := by decide +kernel
theorem eL_law_744 : decode cL_law 744 = .ok (.invokevirtual 96, 3) := by decide +kernel
theorem eL_law_749 : decode cL_law 749 = .ok (.if_icmp .eq 5, 3) := by decide +kernel
theorem eL_law_753 : decode cL_law 753 = .ok (.ireturn, 1) := by decide +kernel
theorem eL_law_756 : decode cL_law 756 = .ok (.ifCond .ne 15, 3) := by decide +kernel
theorem eL_law_761 : decode cL_law 761 = .ok (.laload, 1) := by decide +kernel
theorem eL_law_764 : decode cL_law 764 = .ok (.i2l, 1) := by decide +kernel
theorem eL_law_765 : decode cL_law 765 = .ok (.lcmp, 1) := by decide +kernel
theorem eL_law_766 : decode cL_law 766 = .ok (.ifCond .eq 5, 3) := by decide +kernel
theorem eL_law_770 : decode cL_law 770 = .ok (.ireturn, 1) := by decide +kernel
theorem eL_law_771 : decode cL_law 771 = .ok (.goto 811, 3) := by decide +kernel
theorem eL_law_780 : decode cL_law 780 = .ok (.iaload, 1) := by decide +kernel
theorem eL_law_782 : decode cL_law 782 = .ok (.invokestatic 127, 3) := by decide +kernel
theorem eL_law_793 : decode cL_law 793 = .ok (.iaload, 1) := by decide +kernel
theorem eL_law_794 : decode cL_law 794 = .ok (.invokevirtual 129, 3) := by decide +kernel
theorem eL_law_800 : decode cL_law 800 = .ok (.invokevirtual 96, 3) := by decide +kernel
theorem eL_law_805 : decode cL_law 805 = .ok (.if_icmp .eq 5, 3) := by decide +kernel
theorem eL_law_809 : decode cL_law 809 = .ok (.ireturn, 1) := by decide +kernel
theorem eL_law_812 : decode cL_law 812 = .ok (.ifCond .ne 15, 3) := by decide +kernel
theorem eL_law_817 : decode cL_law 817 = .ok (.laload, 1) := by decide +kernel
theorem eL_law_820 : decode cL_law 820 = .ok (.i2l, 1) := by decide +kernel
theorem eL_law_821 : decode cL_law 821 = .ok (.lcmp, 1) := by decide +kernel
theorem eL_law_822 : decode cL_law 822 = .ok (.ifCond .eq 5, 3) := by decide +kernel
theorem eL_law_826 : decode cL_law 826 = .ok (.ireturn, 1) := by decide +kernel
theorem eL_law_827 : decode cL_law 827 = .ok (.goto 755, 3) := by decide +kernel
theorem eL_law_836 : decode cL_law 836 = .ok (.iaload, 1) := by decide +kernel
theorem eL_law_838 : decode cL_law 838 = .ok (.invokestatic 130, 3) := by decide +kernel
theorem eL_law_849 : decode cL_law 849 = .ok (.iaload, 1) := by decide +kernel
theorem eL_law_850 : decode cL_law 850 = .ok (.invokevirtual 132, 3) := by decide +kernel
theorem eL_law_856 : decode cL_law 856 = .ok (.invokevirtual 96, 3) := by decide +kernel
theorem eL_law_861 : decode cL_law 861 = .ok (.if_icmp .eq 5, 3) := by decide +kernel
theorem eL_law_865 : decode cL_law 865 = .ok (.ireturn, 1) := by decide +kernel
theorem eL_law_868 : decode cL_law 868 = .ok (.ifCond .ne 15, 3) := by decide +kernel
theorem eL_law_873 : decode cL_law 873 = .ok (.laload, 1) := by decide +kernel
theorem eL_law_876 : decode cL_law 876 = .ok (.i2l, 1) := by decide +kernel
theorem eL_law_877 : decode cL_law 877 = .ok (.lcmp, 1) := by decide +kernel
theorem eL_law_878 : decode cL_law 878 = .ok (.ifCond .eq 5, 3) := by decide +kernel
theorem eL_law_882 : decode cL_law 882 = .ok (.ireturn, 1) := by decide +kernel
theorem eL_law_883 : decode cL_law 883 = .ok (.goto 699, 3) := by decide +kernel
theorem eL_law_892 : decode cL_law 892 = .ok (.iaload, 1) := by decide +kernel
theorem eL_law_894 : decode cL_law 894 = .ok (.invokestatic 133, 3) := by decide +kernel
theorem eL_law_905 : decode cL_law 905 = .ok (.iaload, 1) := by decide +kernel
theorem eL_law_906 : decode cL_law 906 = .ok (.invokevirtual 135, 3) := by decide +kernel
theorem eL_law_912 : decode cL_law 912 = .ok (.invokevirtual 96, 3) := by decide +kernel
theorem eL_law_917 : decode cL_law 917 = .ok (.if_icmp .eq 5, 3) := by decide +kernel
theorem eL_law_921 : decode cL_law 921 = .ok (.ireturn, 1) := by decide +kernel
theorem eL_law_924 : decode cL_law 924 = .ok (.ifCond .ne 15, 3) := by decide +kernel
theorem eL_law_929 : decode cL_law 929 = .ok (.laload, 1) := by decide +kernel
theorem eL_law_932 : decode cL_law 932 = .ok (.i2l, 1) := by decide +kernel
theorem eL_law_933 : decode cL_law 933 = .ok (.lcmp, 1) := by decide +kernel
theorem eL_law_934 : decode cL_law 934 = .ok (.ifCond .eq 5, 3) := by decide +kernel
theorem eL_law_938 : decode cL_law 938 = .ok (.ireturn, 1) := by decide +kernel
theorem eL_law_939 : decode cL_law 939 = .ok (.goto 643, 3) := by decide +kernel
theorem eL_law_948 : decode cL_law 948 = .ok (.iaload, 1) := by decide +kernel
theorem eL_law_950 : decode cL_law 950 = .ok (.invokestatic 136, 3) := by decide +kernel
theorem eL_law_961 : decode cL_law 961 = .ok (.iaload, 1) := by decide +kernel
theorem eL_law_962 : decode cL_law 962 = .ok (.invokevirtual 138, 3) := by decide +kernel
theorem eL_law_968 : decode cL_law 968 = .ok (.invokevirtual 96, 3) := by decide +kernel
theorem eL_law_973 : decode cL_law 973 = .ok (.if_icmp .eq 5, 3) := by decide +kernel
theorem eL_law_977 : decode cL_law 977 = .ok (.ireturn, 1) := by decide +kernel
theorem eL_law_980 : decode cL_law 980 = .ok (.ifCond .ne 15, 3) := by decide +kernel
theorem eL_law_985 : decode cL_law 985 = .ok (.laload, 1) := by decide +kernel
theorem eL_law_988 : decode cL_law 988 = .ok (.i2l, 1) := by decide +kernel
theorem eL_law_989 : decode cL_law 989 = .ok (.lcmp, 1) := by decide +kernel
theorem eL_law_990 : decode cL_law 990 = .ok (.ifCond .eq 5, 3) := by decide +kernel
theorem eL_law_994 : decode cL_law 994 = .ok (.ireturn, 1) := by decide +kernel
theorem eL_law_995 : decode cL_law 995 = .ok (.goto 587, 3) := by decide +kernel
theorem eL_law_1004 : decode cL_law 1004 = .ok (.iaload, 1) := by decide +kernel
theorem eL_law_1006 : decode cL_law 1006 = .ok (.invokestatic 139, 3) := by decide +kernel
theorem eL_law_1017 : decode cL_law 1017 = .ok (.iaload, 1) := by decide +kernel
theorem eL_law_1018 : decode cL_law 1018 = .ok (.invokevirtual 141, 3) := by decide +kernel
theorem eL_law_1024 : decode cL_law 1024 = .ok (.invokevirtual 96, 3) := by decide +kernel
theorem eL_law_1029 : decode cL_law 1029 = .ok (.if_icmp .eq 5, 3) := by decide +kernel
theorem eL_law_1033 : decode cL_law 1033 = .ok (.ireturn, 1) := by decide +kernel
theorem eL_law_1036 : decode cL_law 1036 = .ok (.ifCond .ne 15, 3) := by decide +kernel
theorem eL_law_1041 : decode cL_law 1041 = .ok (.laload, 1) := by decide +kernel
theorem eL_law_1044 : decode cL_law 1044 = .ok (.i2l, 1) := by decide +kernel
theorem eL_law_1045 : decode cL_law 1045 = .ok (.lcmp, 1) := by decide +kernel
theorem eL_law_1046 : decode cL_law 1046 = .ok (.ifCond .eq 5, 3) := by decide +kernel
theorem eL_law_1050 : decode cL_law 1050 = .ok (.ireturn, 1) := by decide +kernel
theorem eL_law_1051 : decode cL_law 1051 = .ok (.goto 531, 3) := by decide +kernel
theorem eL_law_1060 : decode cL_law 1060 = .ok (.iaload, 1) := by decide +kernel
theorem eL_law_1062 : decode cL_law 1062 = .ok (.invokestatic 142, 3) := by decide +kernel
theorem eL_law_1073 : decode cL_law 1073 = .ok (.iaload, 1) := by decide +kernel
theorem eL_law_1074 : decode cL_law 1074 = .ok (.invokevirtual 144, 3) := by decide +kernel
theorem eL_law_1080 : decode cL_law 1080 = .ok (.invokevirtual 96, 3) := by decide +kernel
theorem eL_law_1085 : decode cL_law 1085 = .ok (.if_icmp .eq 5, 3) := by decide +kernel
theorem eL_law_1089 : decode cL_law 1089 = .ok (.ireturn, 1) := by decide +kernel
theorem eL_law_1092 : decode cL_law 1092 = .ok (.ifCond .ne 15, 3) := by decide +kernel
theorem eL_law_1097 : decode cL_law 1097 = .ok (.laload, 1) := by decide +kernel
theorem eL_law_1100 : decode cL_law 1100 = .ok (.i2l, 1) := by decide +kernel
theorem eL_law_1101 : decode cL_law 1101 = .ok (.lcmp, 1) := by decide +kernel
theorem eL_law_1102 : decode cL_law 1102 = .ok (.ifCond .eq 5, 3) := by decide +kernel
theorem eL_law_1106 : decode cL_law 1106 = .ok (.ireturn, 1) := by decide +kernel
theorem eL_law_1107 : decode cL_law 1107 = .ok (.goto 475, 3) := by decide +kernel
theorem eL_law_1111 : decode cL_law 1111 = .ok (.invokevirtual 145, 3) := by decide +kernel
theorem eL_law_1115 : decode cL_law 1115 = .ok (.invokevirtual 148, 3) := by decide +kernel
theorem eL_law_1118 : decode cL_law 1118 = .ok (.if_icmp .eq 464, 3) := by decide +kernel
theorem eL_law_1122 : decode cL_law 1122 = .ok (.ireturn, 1) := by decide +kernel
theorem eL_law_1129 : decode cL_law 1129 = .ok (.iaload, 1) := by decide +kernel
theorem eL_law_1135 : decode cL_law 1135 = .ok (.iaload, 1) := by decide +kernel
theorem eL_law_1141 : decode cL_law 1141 = .ok (.iaload, 1) := by decide +kernel
theorem eL_law_1143 : decode cL_law 1143 = .ok (.invokestatic 149, 3) := by decide +kernel
theorem eL_law_1154 : decode cL_law 1154 = .ok (.iaload, 1) := by decide +kernel
theorem eL_law_1160 : decode cL_law 1160 = .ok (.iaload, 1) := by decide +kernel
theorem eL_law_1166 : decode cL_law 1166 = .ok (.iaload, 1) := by decide +kernel
theorem eL_law_1167 : decode cL_law 1167 = .ok (.invokevirtual 151, 3) := by decide +kernel
theorem eL_law_1173 : decode cL_law 1173 = .ok (.invokevirtual 96, 3) := by decide +kernel
theorem eL_law_1178 : decode cL_law 1178 = .ok (.if_icmp .eq 5, 3) := by decide +kernel
theorem eL_law_1182 : decode cL_law 1182 = .ok (.ireturn, 1) := by decide +kernel
theorem eL_law_1185 : decode cL_law 1185 = .ok (.ifCond .ne 15, 3) := by decide +kernel
theorem eL_law_1190 : decode cL_law 1190 = .ok (.laload, 1) := by decide +kernel
theorem eL_law_1193 : decode cL_law 1193 = .ok (.i2l, 1) := by decide +kernel
theorem eL_law_1194 : decode cL_law 1194 = .ok (.lcmp, 1) := by decide +kernel
theorem eL_law_1195 : decode cL_law 1195 = .ok (.ifCond .eq 5, 3) := by decide +kernel
theorem eL_law_1199 : decode cL_law 1199 = .ok (.ireturn, 1) := by decide +kernel
theorem eL_law_1200 : decode cL_law 1200 = .ok (.goto 382, 3) := by decide +kernel
theorem eL_law_1209 : decode cL_law 1209 = .ok (.iaload, 1) := by decide +kernel
theorem eL_law_1215 : decode cL_law 1215 = .ok (.iaload, 1) := by decide +kernel
theorem eL_law_1221 : decode cL_law 1221 = .ok (.iaload, 1) := by decide +kernel
theorem eL_law_1223 : decode cL_law 1223 = .ok (.invokestatic 152, 3) := by decide +kernel
theorem eL_law_1234 : decode cL_law 1234 = .ok (.iaload, 1) := by decide +kernel
theorem eL_law_1240 : decode cL_law 1240 = .ok (.iaload, 1) := by decide +kernel
theorem eL_law_1246 : decode cL_law 1246 = .ok (.iaload, 1) := by decide +kernel
theorem eL_law_1247 : decode cL_law 1247 = .ok (.invokevirtual 154, 3) := by decide +kernel
theorem eL_law_1253 : decode cL_law 1253 = .ok (.invokevirtual 96, 3) := by decide +kernel
theorem eL_law_1258 : decode cL_law 1258 = .ok (.if_icmp .eq 5, 3) := by decide +kernel
theorem eL_law_1262 : decode cL_law 1262 = .ok (.ireturn, 1) := by decide +kernel
theorem eL_law_1265 : decode cL_law 1265 = .ok (.ifCond .ne 15, 3) := by decide +kernel
theorem eL_law_1270 : decode cL_law 1270 = .ok (.laload, 1) := by decide +kernel
theorem eL_law_1273 : decode cL_law 1273 = .ok (.i2l, 1) := by decide +kernel
theorem eL_law_1274 : decode cL_law 1274 = .ok (.lcmp, 1) := by decide +kernel
theorem eL_law_1275 : decode cL_law 1275 = .ok (.ifCond .eq 5, 3) := by decide +kernel
theorem eL_law_1279 : decode cL_law 1279 = .ok (.ireturn, 1) := by decide +kernel
theorem eL_law_1280 : decode cL_law 1280 = .ok (.goto 302, 3) := by decide +kernel
theorem eL_law_1289 : decode cL_law 1289 = .ok (.iaload, 1) := by decide +kernel
theorem eL_law_1291 : decode cL_law 1291 = .ok (.invokestatic 155, 3) := by decide +kernel
theorem eL_law_1302 : decode cL_law 1302 = .ok (.iaload, 1) := by decide +kernel
theorem eL_law_1303 : decode cL_law 1303 = .ok (.invokevirtual 157, 3) := by decide +kernel
theorem eL_law_1309 : decode cL_law 1309 = .ok (.invokevirtual 96, 3) := by decide +kernel
theorem eL_law_1314 : decode cL_law 1314 = .ok (.if_icmp .eq 5, 3) := by decide +kernel
theorem eL_law_1318 : decode cL_law 1318 = .ok (.ireturn, 1) := by decide +kernel
theorem eL_law_1321 : decode cL_law 1321 = .ok (.ifCond .ne 15, 3) := by decide +kernel
theorem eL_law_1326 : decode cL_law 1326 = .ok (.laload, 1) := by decide +kernel
theorem eL_law_1329 : decode cL_law 1329 = .ok (.i2l, 1) := by decide +kernel
theorem eL_law_1330 : decode cL_law 1330 = .ok (.lcmp, 1) := by decide +kernel
theorem eL_law_1331 : decode cL_law 1331 = .ok (.ifCond .eq 5, 3) := by decide +kernel
theorem eL_law_1335 : decode cL_law 1335 = .ok (.ireturn, 1) := by decide +kernel
theorem eL_law_1336 : decode cL_law 1336 = .ok (.goto 246, 3) := by decide +kernel
theorem eL_law_1345 : decode cL_law 1345 = .ok (.iaload, 1) := by decide +kernel
theorem eL_law_1351 : decode cL_law 1351 = .ok (.iaload, 1) := by decide +kernel
theorem eL_law_1357 : decode cL_law 1357 = .ok (.iaload, 1) := by decide +kernel
theorem eL_law_1363 : decode cL_law 1363 = .ok (.iaload, 1) := by decide +kernel
theorem eL_law_1365 : decode cL_law 1365 = .ok (.invokestatic 158, 3) := by decide +kernel
theorem eL_law_1376 : decode cL_law 1376 = .ok (.iaload, 1) := by decide +kernel
theorem eL_law_1382 : decode cL_law 1382 = .ok (.iaload, 1) := by decide +kernel
theorem eL_law_1388 : decode cL_law 1388 = .ok (.iaload, 1) := by decide +kernel
theorem eL_law_1394 : decode cL_law 1394 = .ok (.iaload, 1) := by decide +kernel
theorem eL_law_1395 : decode cL_law 1395 = .ok (.invokevirtual 161, 3) := by decide +kernel
theorem eL_law_1401 : decode cL_law 1401 = .ok (.invokevirtual 96, 3) := by decide +kernel
theorem eL_law_1406 : decode cL_law 1406 = .ok (.if_icmp .eq 5, 3) := by decide +kernel
theorem eL_law_1410 : decode cL_law 1410 = .ok (.ireturn, 1) := by decide +kernel
theorem eL_law_1413 : decode cL_law 1413 = .ok (.ifCond .ne 15, 3) := by decide +kernel
theorem eL_law_1418 : decode cL_law 1418 = .ok (.laload, 1) := by decide +kernel
theorem eL_law_1421 : decode cL_law 1421 = .ok (.i2l, 1) := by decide +kernel
theorem eL_law_1422 : decode cL_law 1422 = .ok (.lcmp, 1) := by decide +kernel
theorem eL_law_1423 : decode cL_law 1423 = .ok (.ifCond .eq 5, 3) := by decide +kernel
theorem eL_law_1427 : decode cL_law 1427 = .ok (.ireturn, 1) := by decide +kernel
theorem eL_law_1428 : decode cL_law 1428 = .ok (.goto 154, 3) := by decide +kernel
theorem eL_law_1437 : decode cL_law 1437 = .ok (.iaload, 1) := by decide +kernel
theorem eL_law_1443 : decode cL_law 1443 = .ok (.iaload, 1) := by decide +kernel
theorem eL_law_1445 : decode cL_law 1445 = .ok (.invokestatic 162, 3) := by decide +kernel
theorem eL_law_1456 : decode cL_law 1456 = .ok (.iaload, 1) := by decide +kernel
theorem eL_law_1462 : decode cL_law 1462 = .ok (.iaload, 1) := by decide +kernel
theorem eL_law_1463 : decode cL_law 1463 = .ok (.invokevirtual 164, 3) := by decide +kernel
theorem eL_law_1469 : decode cL_law 1469 = .ok (.invokevirtual 96, 3) := by decide +kernel
theorem eL_law_1474 : decode cL_law 1474 = .ok (.if_icmp .eq 5, 3) := by decide +kernel
theorem eL_law_1478 : decode cL_law 1478 = .ok (.ireturn, 1) := by decide +kernel
theorem eL_law_1481 : decode cL_law 1481 = .ok (.ifCond .ne 15, 3) := by decide +kernel
theorem eL_law_1486 : decode cL_law 1486 = .ok (.laload, 1) := by decide +kernel
theorem eL_law_1489 : decode cL_law 1489 = .ok (.i2l, 1) := by decide +kernel
theorem eL_law_1490 : decode cL_law 1490 = .ok (.lcmp, 1) := by decide +kernel
theorem eL_law_1491 : decode cL_law 1491 = .ok (.ifCond .eq 5, 3) := by decide +kernel
theorem eL_law_1495 : decode cL_law 1495 = .ok (.ireturn, 1) := by decide +kernel
theorem eL_law_1496 : decode cL_law 1496 = .ok (.goto 86, 3) := by decide +kernel
theorem eL_law_1505 : decode cL_law 1505 = .ok (.iaload, 1) := by decide +kernel
theorem eL_law_1507 : decode cL_law 1507 = .ok (.invokestatic 165, 3) := by decide +kernel
theorem eL_law_1518 : decode cL_law 1518 = .ok (.iaload, 1) := by decide +kernel
theorem eL_law_1519 : decode cL_law 1519 = .ok (.invokevirtual 167, 3) := by decide +kernel
theorem eL_law_1525 : decode cL_law 1525 = .ok (.invokevirtual 96, 3) := by decide +kernel
theorem eL_law_1530 : decode cL_law 1530 = .ok (.if_icmp .eq 5, 3) := by decide +kernel
theorem eL_law_1534 : decode cL_law 1534 = .ok (.ireturn, 1) := by decide +kernel
theorem eL_law_1537 : decode cL_law 1537 = .ok (.ifCond .ne 15, 3) := by decide +kernel
theorem eL_law_1542 : decode cL_law 1542 = .ok (.laload, 1) := by decide +kernel
theorem eL_law_1545 : decode cL_law 1545 = .ok (.i2l, 1) := by decide +kernel
theorem eL_law_1546 : decode cL_law 1546 = .ok (.lcmp, 1) := by decide +kernel
theorem eL_law_1547 : decode cL_law 1547 = .ok (.ifCond .eq 5, 3) := by decide +kernel
theorem eL_law_1551 : decode cL_law 1551 = .ok (.ireturn, 1) := by decide +kernel
theorem eL_law_1552 : decode cL_law 1552 = .ok (.goto 30, 3) := by decide +kernel
theorem eL_law_1556 : decode cL_law 1556 = .ok (.invokevirtual 168, 3) := by decide +kernel
theorem eL_law_1560 : decode cL_law 1560 = .ok (.invokevirtual 171, 3) := by decide +kernel
theorem eL_law_1563 : decode cL_law 1563 = .ok (.if_icmp .eq 19, 3) := by decide +kernel
theorem eL_law_1567 : decode cL_law 1567 = .ok (.ireturn, 1) := by decide +kernel
theorem eL_law_1569 : decode cL_law 1569 = .ok (.invokevirtual 172, 3) := by decide +kernel
theorem eL_law_1573 : decode cL_law 1573 = .ok (.invokevirtual 176, 3) := by decide +kernel
theorem eL_law_1576 : decode cL_law 1576 = .ok (.lcmp, 1) := by decide +kernel
theorem eL_law_1577 : decode cL_law 1577 = .ok (.ifCond .eq 5, 3) := by decide +kernel
theorem eL_law_1581 : decode cL_law 1581 = .ok (.ireturn, 1) := by decide +kernel
theorem eL_law_1585 : decode cL_law 1585 = .ok (.goto (-1562), 3) := by decide +kernel
theorem eL_law_1589 : decode cL_law 1589 = .ok (.ireturn, 1) := by decide +kernel
