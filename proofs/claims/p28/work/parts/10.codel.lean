/-! What the bytes are (by program). -/
theorem kL_put_0 : am_dec cL_put 0 [.aload_n 1, .iconst 1, .aload_n 1, .iconst 0] 4 = true := by decide +kernel
theorem kL_put_5 : am_dec cL_put 5 [.bipush 20] 7 = true := by decide +kernel
theorem kL_put_8 : am_dec cL_put 8 [.iconst 4] 9 = true := by decide +kernel
theorem kL_put_10 : am_dec cL_put 10 [.iadd, .dup2] 12 = true := by decide +kernel
theorem kL_put_13 : am_dec cL_put 13 [.iload_n 2, .bipush 24, .bipush 8, .aload_n 1, .iconst 0] 20 = true := by decide +kernel
theorem kL_put_21 : am_dec cL_put 21 [.iconst 4] 22 = true := by decide +kernel
theorem kL_put_23 : am_dec cL_put 23 [.imul, .isub] 25 = true := by decide +kernel
theorem kL_put_28 : am_dec cL_put 28 [.aload_n 1, .iconst 0, .dup2] 31 = true := by decide +kernel
theorem kL_put_32 : am_dec cL_put 32 [.iconst 1, .iadd] 34 = true := by decide +kernel
theorem kL_put_35 : am_dec cL_put 35 [.aload_n 1, .iconst 0] 37 = true := by decide +kernel
theorem kL_put_38 : am_dec cL_put 38 [.bipush 20] 40 = true := by decide +kernel
theorem kL_put_44 : am_dec cL_put 44 [.aload_n 0, .aload_n 1] 46 = true := by decide +kernel
theorem eL_put_4 : decode cL_put 4 = .ok (.iaload, 1) := by decide +kernel
theorem eL_put_7 : decode cL_put 7 = .ok (.irem, 1) := by decide +kernel
theorem eL_put_9 : decode cL_put 9 = .ok (.idiv, 1) := by decide +kernel
theorem eL_put_12 : decode cL_put 12 = .ok (.iaload, 1) := by decide +kernel
theorem eL_put_20 : decode cL_put 20 = .ok (.iaload, 1) := by decide +kernel
theorem eL_put_22 : decode cL_put 22 = .ok (.irem, 1) := by decide +kernel
theorem eL_put_25 : decode cL_put 25 = .ok (.ishl, 1) := by decide +kernel
theorem eL_put_26 : decode cL_put 26 = .ok (.ior, 1) := by decide +kernel
theorem eL_put_27 : decode cL_put 27 = .ok (.iastore, 1) := by decide +kernel
theorem eL_put_31 : decode cL_put 31 = .ok (.iaload, 1) := by decide +kernel
theorem eL_put_34 : decode cL_put 34 = .ok (.iastore, 1) := by decide +kernel
theorem eL_put_37 : decode cL_put 37 = .ok (.iaload, 1) := by decide +kernel
theorem eL_put_40 : decode cL_put 40 = .ok (.irem, 1) := by decide +kernel
theorem eL_put_41 : decode cL_put 41 = .ok (.ifCond .ne 8, 3) := by decide +kernel
theorem eL_put_46 : decode cL_put 46 = .ok (.invokestatic 7, 3) := by decide +kernel
theorem eL_put_49 : decode cL_put 49 = .ok (.return_, 1) := by decide +kernel
theorem kL_flush_0 : am_dec cL_flush 0 [.aload_n 0, .aload_n 1, .iconst 1] 3 = true := by decide +kernel
theorem kL_flush_4 : am_dec cL_flush 4 [.aload_n 1, .iconst 2] 6 = true := by decide +kernel
theorem kL_flush_7 : am_dec cL_flush 7 [.aload_n 1, .iconst 3] 9 = true := by decide +kernel
theorem kL_flush_10 : am_dec cL_flush 10 [.aload_n 1, .iconst 4] 12 = true := by decide +kernel
theorem kL_flush_13 : am_dec cL_flush 13 [.aload_n 1, .iconst 5] 15 = true := by decide +kernel
theorem kL_flush_19 : am_dec cL_flush 19 [.pop, .iconst 1, .istore_n 2] 22 = true := by decide +kernel
theorem kL_flush_22 : am_dec cL_flush 22 [.iload_n 2, .bipush 6] 25 = true := by decide +kernel
theorem kL_flush_28 : am_dec cL_flush 28 [.aload_n 1, .iload_n 2, .iconst 0] 31 = true := by decide +kernel
theorem kL_flush_32 : am_dec cL_flush 32 [.iinc 2 1] 35 = true := by decide +kernel
theorem eL_flush_3 : decode cL_flush 3 = .ok (.iaload, 1) := by decide +kernel
theorem eL_flush_6 : decode cL_flush 6 = .ok (.iaload, 1) := by decide +kernel
theorem eL_flush_9 : decode cL_flush 9 = .ok (.iaload, 1) := by decide +kernel
theorem eL_flush_12 : decode cL_flush 12 = .ok (.iaload, 1) := by decide +kernel
theorem eL_flush_15 : decode cL_flush 15 = .ok (.iaload, 1) := by decide +kernel
theorem eL_flush_16 : decode cL_flush 16 = .ok (.invokevirtual 13, 3) := by decide +kernel
theorem eL_flush_25 : decode cL_flush 25 = .ok (.if_icmp .ge 13, 3) := by decide +kernel
theorem eL_flush_31 : decode cL_flush 31 = .ok (.iastore, 1) := by decide +kernel
theorem eL_flush_35 : decode cL_flush 35 = .ok (.goto (-13), 3) := by decide +kernel
theorem eL_flush_38 : decode cL_flush 38 = .ok (.return_, 1) := by decide +kernel
theorem kL_loadText_0 : am_dec cL_loadText 0 [.aload_n 1, .iconst 0] 2 = true := by decide +kernel
theorem kL_loadText_3 : am_dec cL_loadText 3 [.istore_n 2, .iload_n 2, .bipush 20] 7 = true := by decide +kernel
theorem kL_loadText_11 : am_dec cL_loadText 11 [.aload_n 0, .aload_n 1] 13 = true := by decide +kernel
theorem kL_loadText_16 : am_dec cL_loadText 16 [.aload_n 1, .iconst 0, .iconst 0] 19 = true := by decide +kernel
theorem kL_loadText_20 : am_dec cL_loadText 20 [.aload_n 0, .iload_n 2] 22 = true := by decide +kernel
theorem eL_loadText_2 : decode cL_loadText 2 = .ok (.iaload, 1) := by decide +kernel
theorem eL_loadText_7 : decode cL_loadText 7 = .ok (.irem, 1) := by decide +kernel
theorem eL_loadText_8 : decode cL_loadText 8 = .ok (.ifCond .le 8, 3) := by decide +kernel
theorem eL_loadText_13 : decode cL_loadText 13 = .ok (.invokestatic 7, 3) := by decide +kernel
theorem eL_loadText_19 : decode cL_loadText 19 = .ok (.iastore, 1) := by decide +kernel
theorem eL_loadText_22 : decode cL_loadText 22 = .ok (.invokestatic 19, 3) := by decide +kernel
theorem eL_loadText_25 : decode cL_loadText 25 = .ok (.ireturn, 1) := by decide +kernel
theorem kL_write_0 : am_dec cL_write 0 [.iconst 0, .istore_n 3] 2 = true := by decide +kernel
theorem kL_write_2 : am_dec cL_write 2 [.iload_n 3, .aload_n 2] 4 = true := by decide +kernel
theorem kL_write_10 : am_dec cL_write 10 [.aload_n 0, .aload_n 1, .aload_n 2, .iload_n 3] 14 = true := by decide +kernel
theorem kL_write_20 : am_dec cL_write 20 [.iinc 3 1] 23 = true := by decide +kernel
theorem eL_write_4 : decode cL_write 4 = .ok (.invokevirtual 23, 3) := by decide +kernel
theorem eL_write_7 : decode cL_write 7 = .ok (.if_icmp .ge 19, 3) := by decide +kernel
theorem eL_write_14 : decode cL_write 14 = .ok (.invokevirtual 29, 3) := by decide +kernel
theorem eL_write_17 : decode cL_write 17 = .ok (.invokestatic 33, 3) := by decide +kernel
theorem eL_write_23 : decode cL_write 23 = .ok (.goto (-21), 3) := by decide +kernel
theorem eL_write_26 : decode cL_write 26 = .ok (.return_, 1) := by decide +kernel
theorem kL_writeNumber_0 : am_dec cL_writeNumber 0 [.iconst 1, .istore_n 3] 2 = true := by decide +kernel
theorem kL_writeNumber_2 : am_dec cL_writeNumber 2 [.iload_n 3, .iload_n 2, .bipush 10] 6 = true := by decide +kernel
theorem kL_writeNumber_10 : am_dec cL_writeNumber 10 [.iload_n 3, .bipush 10, .imul, .istore_n 3] 15 = true := by decide +kernel
theorem kL_writeNumber_18 : am_dec cL_writeNumber 18 [.iload_n 3] 19 = true := by decide +kernel
theorem kL_writeNumber_22 : am_dec cL_writeNumber 22 [.aload_n 0, .aload_n 1, .bipush 48, .iload_n 2, .iload_n 3] 28 = true := by decide +kernel
theorem kL_writeNumber_29 : am_dec cL_writeNumber 29 [.bipush 10] 31 = true := by decide +kernel
theorem kL_writeNumber_32 : am_dec cL_writeNumber 32 [.iadd] 33 = true := by decide +kernel
theorem kL_writeNumber_36 : am_dec cL_writeNumber 36 [.iload_n 3, .bipush 10] 39 = true := by decide +kernel
theorem kL_writeNumber_40 : am_dec cL_writeNumber 40 [.istore_n 3] 41 = true := by decide +kernel
theorem eL_writeNumber_6 : decode cL_writeNumber 6 = .ok (.idiv, 1) := by decide +kernel
theorem eL_writeNumber_7 : decode cL_writeNumber 7 = .ok (.if_icmp .gt 11, 3) := by decide +kernel
theorem eL_writeNumber_15 : decode cL_writeNumber 15 = .ok (.goto (-13), 3) := by decide +kernel
theorem eL_writeNumber_19 : decode cL_writeNumber 19 = .ok (.ifCond .le 25, 3) := by decide +kernel
theorem eL_writeNumber_28 : decode cL_writeNumber 28 = .ok (.idiv, 1) := by decide +kernel
theorem eL_writeNumber_31 : decode cL_writeNumber 31 = .ok (.irem, 1) := by decide +kernel
theorem eL_writeNumber_33 : decode cL_writeNumber 33 = .ok (.invokestatic 33, 3) := by decide +kernel
theorem eL_writeNumber_39 : decode cL_writeNumber 39 = .ok (.idiv, 1) := by decide +kernel
theorem eL_writeNumber_41 : decode cL_writeNumber 41 = .ok (.goto (-23), 3) := by decide +kernel
theorem eL_writeNumber_44 : decode cL_writeNumber 44 = .ok (.return_, 1) := by decide +kernel
theorem kL_load_0 : am_dec cL_load 0 [.aload_n 0, .iload_n 1] 2 = true := by decide +kernel
theorem kL_load_6 : am_dec cL_load 6 [.astore_n 2] 7 = true := by decide +kernel
theorem eL_load_2 : decode cL_load 2 = .ok (.invokevirtual 37, 3) := by decide +kernel
theorem eL_load_5 : decode cL_load 5 = .ok (.ireturn, 1) := by decide +kernel
theorem eL_load_7 : decode cL_load 7 = .ok (.ldc 42, 2) := by decide +kernel
theorem eL_load_9 : decode cL_load 9 = .ok (.ireturn, 1) := by decide +kernel
theorem kL_count_0 : am_dec cL_count 0 [.aload_n 0, .iload_n 1] 2 = true := by decide +kernel
theorem kL_count_6 : am_dec cL_count 6 [.astore_n 2] 7 = true := by decide +kernel
theorem eL_count_2 : decode cL_count 2 = .ok (.invokevirtual 43, 3) := by decide +kernel
theorem eL_count_5 : decode cL_count 5 = .ok (.ireturn, 1) := by decide +kernel
theorem eL_count_7 : decode cL_count 7 = .ok (.ldc 42, 2) := by decide +kernel
theorem eL_count_9 : decode cL_count 9 = .ok (.ireturn, 1) := by decide +kernel
theorem kL_stone_0 : am_dec cL_stone 0 [.aload_n 0, .iload_n 1, .iload_n 2] 3 = true := by decide +kernel
theorem kL_stone_7 : am_dec cL_stone 7 [.astore_n 3] 8 = true := by decide +kernel
theorem kL_stone_11 : am_dec cL_stone 11 [.astore_n 3] 12 = true := by decide +kernel
theorem eL_stone_3 : decode cL_stone 3 = .ok (.invokevirtual 46, 3) := by decide +kernel
theorem eL_stone_6 : decode cL_stone 6 = .ok (.ireturn, 1) := by decide +kernel
theorem eL_stone_8 : decode cL_stone 8 = .ok (.ldc 52, 2) := by decide +kernel
theorem eL_stone_10 : decode cL_stone 10 = .ok (.ireturn, 1) := by decide +kernel
theorem eL_stone_12 : decode cL_stone 12 = .ok (.ldc 42, 2) := by decide +kernel
theorem eL_stone_14 : decode cL_stone 14 = .ok (.ireturn, 1) := by decide +kernel
theorem kL_polygon_0 : am_dec cL_polygon 0 [.aload_n 0, .iload_n 1, .iload_n 2] 3 = true := by decide +kernel
theorem kL_polygon_7 : am_dec cL_polygon 7 [.astore_n 3] 8 = true := by decide +kernel
theorem kL_polygon_11 : am_dec cL_polygon 11 [.astore_n 3] 12 = true := by decide +kernel
theorem eL_polygon_3 : decode cL_polygon 3 = .ok (.invokevirtual 53, 3) := by decide +kernel
theorem eL_polygon_6 : decode cL_polygon 6 = .ok (.ireturn, 1) := by decide +kernel
theorem eL_polygon_8 : decode cL_polygon 8 = .ok (.ldc 58, 2) := by decide +kernel
theorem eL_polygon_10 : decode cL_polygon 10 = .ok (.ireturn, 1) := by decide +kernel
theorem eL_polygon_12 : decode cL_polygon 12 = .ok (.ldc 42, 2) := by decide +kernel
theorem eL_polygon_14 : decode cL_polygon 14 = .ok (.ireturn, 1) := by decide +kernel
theorem kL_cornerAt_0 : am_dec cL_cornerAt 0 [.aload_n 0, .iload_n 1, .iload_n 2] 3 = true := by decide +kernel
theorem kL_cornerAt_7 : am_dec cL_cornerAt 7 [.astore_n 3] 8 = true := by decide +kernel
theorem kL_cornerAt_11 : am_dec cL_cornerAt 11 [.astore_n 3] 12 = true := by decide +kernel
theorem eL_cornerAt_3 : decode cL_cornerAt 3 = .ok (.invokevirtual 59, 3) := by decide +kernel
theorem eL_cornerAt_6 : decode cL_cornerAt 6 = .ok (.ireturn, 1) := by decide +kernel
theorem eL_cornerAt_8 : decode cL_cornerAt 8 = .ok (.ldc 58, 2) := by decide +kernel
theorem eL_cornerAt_10 : decode cL_cornerAt 10 = .ok (.ireturn, 1) := by decide +kernel
theorem eL_cornerAt_12 : decode cL_cornerAt 12 = .ok (.ldc 52, 2) := by decide +kernel
theorem eL_cornerAt_14 : decode cL_cornerAt 14 = .ok (.ireturn, 1) := by decide +kernel
theorem kL_reason_0 : am_dec cL_reason 0 [.aload_n 0, .iload_n 1, .iload_n 2, .iload_n 3] 4 = true := by decide +kernel
theorem kL_reason_8 : am_dec cL_reason 8 [.astore 4] 10 = true := by decide +kernel
theorem kL_reason_13 : am_dec cL_reason 13 [.astore 4] 15 = true := by decide +kernel
theorem eL_reason_4 : decode cL_reason 4 = .ok (.invokevirtual 62, 3) := by decide +kernel
theorem eL_reason_7 : decode cL_reason 7 = .ok (.ireturn, 1) := by decide +kernel
theorem eL_reason_10 : decode cL_reason 10 = .ok (.ldc 58, 2) := by decide +kernel
theorem eL_reason_12 : decode cL_reason 12 = .ok (.ireturn, 1) := by decide +kernel
theorem eL_reason_15 : decode cL_reason 15 = .ok (.ldc 42, 2) := by decide +kernel
theorem eL_reason_17 : decode cL_reason 17 = .ok (.ireturn, 1) := by decide +kernel
theorem kL_area_0 : am_dec cL_area 0 [.aload_n 0, .iload_n 1] 2 = true := by decide +kernel
theorem kL_area_6 : am_dec cL_area 6 [.astore_n 2] 7 = true := by decide +kernel
theorem kL_area_10 : am_dec cL_area 10 [.astore_n 2] 11 = true := by decide +kernel
theorem eL_area_2 : decode cL_area 2 = .ok (.invokevirtual 72, 3) := by decide +kernel
theorem eL_area_5 : decode cL_area 5 = .ok (.ireturn, 1) := by decide +kernel
theorem eL_area_7 : decode cL_area 7 = .ok (.ldc 58, 2) := by decide +kernel
theorem eL_area_9 : decode cL_area 9 = .ok (.ireturn, 1) := by decide +kernel
theorem eL_area_11 : decode cL_area 11 = .ok (.ldc 71, 2) := by decide +kernel
theorem eL_area_13 : decode cL_area 13 = .ok (.ireturn, 1) := by decide +kernel
theorem kL_points_0 : am_dec cL_points 0 [.aload_n 0, .iload_n 1] 2 = true := by decide +kernel
theorem kL_points_6 : am_dec cL_points 6 [.astore_n 2] 7 = true := by decide +kernel
theorem eL_points_2 : decode cL_points 2 = .ok (.invokevirtual 90, 3) := by decide +kernel
theorem eL_points_5 : decode cL_points 5 = .ok (.ireturn, 1) := by decide +kernel
theorem eL_points_7 : decode cL_points 7 = .ok (.ldc 42, 2) := by decide +kernel
theorem eL_points_9 : decode cL_points 9 = .ok (.ireturn, 1) := by decide +kernel
theorem kL_begin_0 : am_dec cL_begin 0 [.aload_n 0, .iload_n 1, .iload_n 2, .iload_n 3] 4 = true := by decide +kernel
theorem kL_begin_8 : am_dec cL_begin 8 [.astore 4] 10 = true := by decide +kernel
theorem kL_begin_13 : am_dec cL_begin 13 [.astore 4] 15 = true := by decide +kernel
theorem eL_begin_4 : decode cL_begin 4 = .ok (.invokevirtual 93, 3) := by decide +kernel
theorem eL_begin_7 : decode cL_begin 7 = .ok (.ireturn, 1) := by decide +kernel
theorem eL_begin_10 : decode cL_begin 10 = .ok (.ldc 42, 2) := by decide +kernel
theorem eL_begin_12 : decode cL_begin 12 = .ok (.ireturn, 1) := by decide +kernel
theorem eL_begin_15 : decode cL_begin 15 = .ok (.ldc 71, 2) := by decide +kernel
theorem eL_begin_17 : decode cL_begin 17 = .ok (.ireturn, 1) := by decide +kernel
theorem kL_corner_0 : am_dec cL_corner 0 [.aload_n 0, .iload_n 1, .iload_n 2, .iload_n 3] 4 = true := by decide +kernel
theorem kL_corner_8 : am_dec cL_corner 8 [.astore 4] 10 = true := by decide +kernel
theorem kL_corner_13 : am_dec cL_corner 13 [.astore 4] 15 = true := by decide +kernel
theorem eL_corner_4 : decode cL_corner 4 = .ok (.invokevirtual 96, 3) := by decide +kernel
theorem eL_corner_7 : decode cL_corner 7 = .ok (.ireturn, 1) := by decide +kernel
theorem eL_corner_10 : decode cL_corner 10 = .ok (.ldc 58, 2) := by decide +kernel
theorem eL_corner_12 : decode cL_corner 12 = .ok (.ireturn, 1) := by decide +kernel
theorem eL_corner_15 : decode cL_corner 15 = .ok (.ldc 42, 2) := by decide +kernel
theorem eL_corner_17 : decode cL_corner 17 = .ok (.ireturn, 1) := by decide +kernel
theorem kL_close_0 : am_dec cL_close 0 [.aload_n 0, .iload_n 1] 2 = true := by decide +kernel
theorem kL_close_6 : am_dec cL_close 6 [.astore_n 2] 7 = true := by decide +kernel
theorem eL_close_2 : decode cL_close 2 = .ok (.invokevirtual 99, 3) := by decide +kernel
theorem eL_close_5 : decode cL_close 5 = .ok (.ireturn, 1) := by decide +kernel
theorem eL_close_7 : decode cL_close 7 = .ok (.ldc 58, 2) := by decide +kernel
theorem eL_close_9 : decode cL_close 9 = .ok (.ireturn, 1) := by decide +kernel
theorem kL_bend_0 : am_dec cL_bend 0 [.aload_n 0, .iload_n 1, .iload_n 2, .iload_n 3, .iload 4] 6 = true := by decide +kernel
theorem kL_bend_10 : am_dec cL_bend 10 [.astore 5] 12 = true := by decide +kernel
theorem kL_bend_15 : am_dec cL_bend 15 [.astore 5] 17 = true := by decide +kernel
theorem kL_bend_20 : am_dec cL_bend 20 [.astore 5] 22 = true := by decide +kernel
theorem eL_bend_6 : decode cL_bend 6 = .ok (.invokevirtual 102, 3) := by decide +kernel
theorem eL_bend_9 : decode cL_bend 9 = .ok (.ireturn, 1) := by decide +kernel
theorem eL_bend_12 : decode cL_bend 12 = .ok (.ldc 58, 2) := by decide +kernel
theorem eL_bend_14 : decode cL_bend 14 = .ok (.ireturn, 1) := by decide +kernel
theorem eL_bend_17 : decode cL_bend 17 = .ok (.ldc 52, 2) := by decide +kernel
theorem eL_bend_19 : decode cL_bend 19 = .ok (.ireturn, 1) := by decide +kernel
theorem eL_bend_22 : decode cL_bend 22 = .ok (.ldc 42, 2) := by decide +kernel
theorem eL_bend_24 : decode cL_bend 24 = .ok (.ireturn, 1) := by decide +kernel
theorem kL_takeOut_0 : am_dec cL_takeOut 0 [.aload_n 0, .iload_n 1, .iload_n 2] 3 = true := by decide +kernel
theorem kL_takeOut_7 : am_dec cL_takeOut 7 [.astore_n 3] 8 = true := by decide +kernel
theorem kL_takeOut_11 : am_dec cL_takeOut 11 [.astore_n 3] 12 = true := by decide +kernel
theorem eL_takeOut_3 : decode cL_takeOut 3 = .ok (.invokevirtual 106, 3) := by decide +kernel
theorem eL_takeOut_6 : decode cL_takeOut 6 = .ok (.ireturn, 1) := by decide +kernel
theorem eL_takeOut_8 : decode cL_takeOut 8 = .ok (.ldc 58, 2) := by decide +kernel
theorem eL_takeOut_10 : decode cL_takeOut 10 = .ok (.ireturn, 1) := by decide +kernel
theorem eL_takeOut_12 : decode cL_takeOut 12 = .ok (.ldc 52, 2) := by decide +kernel
theorem eL_takeOut_14 : decode cL_takeOut 14 = .ok (.ireturn, 1) := by decide +kernel
theorem kL_remove_0 : am_dec cL_remove 0 [.aload_n 0, .iload_n 1] 2 = true := by decide +kernel
theorem kL_remove_6 : am_dec cL_remove 6 [.astore_n 2] 7 = true := by decide +kernel
theorem eL_remove_2 : decode cL_remove 2 = .ok (.invokevirtual 109, 3) := by decide +kernel
theorem eL_remove_5 : decode cL_remove 5 = .ok (.ireturn, 1) := by decide +kernel
theorem eL_remove_7 : decode cL_remove 7 = .ok (.ldc 58, 2) := by decide +kernel
theorem eL_remove_9 : decode cL_remove 9 = .ok (.ireturn, 1) := by decide +kernel
theorem kL_common_0 : am_dec cL_common 0 [.iload_n 1] 1 = true := by decide +kernel
theorem kL_common_4 : am_dec cL_common 4 [.iload_n 0] 5 = true := by decide +kernel
theorem kL_common_11 : am_dec cL_common 11 [.iload_n 1, .iload_n 0, .iload_n 1] 14 = true := by decide +kernel
theorem eL_common_1 : decode cL_common 1 = .ok (.ifCond .ne 10, 3) := by decide +kernel
theorem eL_common_5 : decode cL_common 5 = .ok (.invokestatic 112, 3) := by decide +kernel
theorem eL_common_8 : decode cL_common 8 = .ok (.goto 10, 3) := by decide +kernel
theorem eL_common_14 : decode cL_common 14 = .ok (.irem, 1) := by decide +kernel
theorem eL_common_15 : decode cL_common 15 = .ok (.invokestatic 117, 3) := by decide +kernel
theorem eL_common_18 : decode cL_common 18 = .ok (.ireturn, 1) := by decide +kernel
theorem kL_put__0 : am_dec cL_put_ 0 [.aload_n 0] 1 = true := by decide +kernel
theorem kL_put__2 : am_dec cL_put_ 2 [.iconst 1, .iadd] 4 = true := by decide +kernel
theorem kL_put__6 : am_dec cL_put_ 6 [.astore_n 3, .iconst 0, .istore 4] 10 = true := by decide +kernel
theorem kL_put__10 : am_dec cL_put_ 10 [.iload 4, .aload_n 3] 13 = true := by decide +kernel
theorem kL_put__17 : am_dec cL_put_ 17 [.aload_n 3, .iload 4, .iload 4, .iload_n 1] 23 = true := by decide +kernel
theorem kL_put__26 : am_dec cL_put_ 26 [.aload_n 0, .iload 4] 29 = true := by decide +kernel
theorem kL_put__33 : am_dec cL_put_ 33 [.iload 4, .iload_n 1] 36 = true := by decide +kernel
theorem kL_put__39 : am_dec cL_put_ 39 [.iload_n 2] 40 = true := by decide +kernel
theorem kL_put__43 : am_dec cL_put_ 43 [.aload_n 0, .iload 4, .iconst 1, .isub] 48 = true := by decide +kernel
theorem kL_put__50 : am_dec cL_put_ 50 [.iinc 4 1] 53 = true := by decide +kernel
theorem kL_put__56 : am_dec cL_put_ 56 [.aload_n 3] 57 = true := by decide +kernel
theorem eL_put__1 : decode cL_put_ 1 = .ok (.arraylength, 1) := by decide +kernel
theorem eL_put__4 : decode cL_put_ 4 = .ok (.newarray .int, 2) := by decide +kernel
theorem eL_put__13 : decode cL_put_ 13 = .ok (.arraylength, 1) := by decide +kernel
theorem eL_put__14 : decode cL_put_ 14 = .ok (.if_icmp .ge 42, 3) := by decide +kernel
theorem eL_put__23 : decode cL_put_ 23 = .ok (.if_icmp .ge 10, 3) := by decide +kernel
theorem eL_put__29 : decode cL_put_ 29 = .ok (.iaload, 1) := by decide +kernel
theorem eL_put__30 : decode cL_put_ 30 = .ok (.goto 19, 3) := by decide +kernel
theorem eL_put__36 : decode cL_put_ 36 = .ok (.if_icmp .ne 7, 3) := by decide +kernel
theorem eL_put__40 : decode cL_put_ 40 = .ok (.goto 9, 3) := by decide +kernel
theorem eL_put__48 : decode cL_put_ 48 = .ok (.iaload, 1) := by decide +kernel
theorem eL_put__49 : decode cL_put_ 49 = .ok (.iastore, 1) := by decide +kernel
theorem eL_put__53 : decode cL_put_ 53 = .ok (.goto (-43), 3) := by decide +kernel
theorem eL_put__57 : decode cL_put_ 57 = .ok (.areturn, 1) := by decide +kernel
theorem kL_drop_0 : am_dec cL_drop 0 [.aload_n 0] 1 = true := by decide +kernel
theorem kL_drop_2 : am_dec cL_drop 2 [.iconst 1, .isub] 4 = true := by decide +kernel
theorem kL_drop_6 : am_dec cL_drop 6 [.astore_n 2, .iconst 0, .istore_n 3] 9 = true := by decide +kernel
theorem kL_drop_9 : am_dec cL_drop 9 [.iload_n 3, .aload_n 2] 11 = true := by decide +kernel
theorem kL_drop_15 : am_dec cL_drop 15 [.aload_n 2, .iload_n 3, .aload_n 0, .iload_n 3, .iload_n 1] 20 = true := by decide +kernel
theorem kL_drop_23 : am_dec cL_drop 23 [.iload_n 3] 24 = true := by decide +kernel
theorem kL_drop_27 : am_dec cL_drop 27 [.iload_n 3, .iconst 1, .iadd] 30 = true := by decide +kernel
theorem kL_drop_32 : am_dec cL_drop 32 [.iinc 3 1] 35 = true := by decide +kernel
theorem kL_drop_38 : am_dec cL_drop 38 [.aload_n 2] 39 = true := by decide +kernel
theorem eL_drop_1 : decode cL_drop 1 = .ok (.arraylength, 1) := by decide +kernel
theorem eL_drop_4 : decode cL_drop 4 = .ok (.newarray .int, 2) := by decide +kernel
theorem eL_drop_11 : decode cL_drop 11 = .ok (.arraylength, 1) := by decide +kernel
theorem eL_drop_12 : decode cL_drop 12 = .ok (.if_icmp .ge 26, 3) := by decide +kernel
theorem eL_drop_20 : decode cL_drop 20 = .ok (.if_icmp .ge 7, 3) := by decide +kernel
theorem eL_drop_24 : decode cL_drop 24 = .ok (.goto 6, 3) := by decide +kernel
theorem eL_drop_30 : decode cL_drop 30 = .ok (.iaload, 1) := by decide +kernel
theorem eL_drop_31 : decode cL_drop 31 = .ok (.iastore, 1) := by decide +kernel
theorem eL_drop_35 : decode cL_drop 35 = .ok (.goto (-26), 3) := by decide +kernel
theorem eL_drop_39 : decode cL_drop 39 = .ok (.areturn, 1) := by decide +kernel
theorem kL_writeNumbers_0 : am_dec cL_writeNumbers 0 [.aload_n 0, .aload_n 1, .aload_n 2] 3 = true := by decide +kernel
theorem kL_writeNumbers_6 : am_dec cL_writeNumbers 6 [.aload_n 3, .astore 4, .aload 4] 11 = true := by decide +kernel
theorem kL_writeNumbers_12 : am_dec cL_writeNumbers 12 [.istore 5, .iconst 0, .istore 6] 17 = true := by decide +kernel
theorem kL_writeNumbers_17 : am_dec cL_writeNumbers 17 [.iload 6, .iload 5] 21 = true := by decide +kernel
theorem kL_writeNumbers_24 : am_dec cL_writeNumbers 24 [.aload 4, .iload 6] 28 = true := by decide +kernel
theorem kL_writeNumbers_29 : am_dec cL_writeNumbers 29 [.istore 7, .aload_n 0, .aload_n 1] 33 = true := by decide +kernel
theorem kL_writeNumbers_38 : am_dec cL_writeNumbers 38 [.aload_n 0, .aload_n 1, .iload 7] 42 = true := by decide +kernel
theorem kL_writeNumbers_45 : am_dec cL_writeNumbers 45 [.iinc 6 1] 48 = true := by decide +kernel
theorem eL_writeNumbers_3 : decode cL_writeNumbers 3 = .ok (.invokestatic 120, 3) := by decide +kernel
theorem eL_writeNumbers_11 : decode cL_writeNumbers 11 = .ok (.arraylength, 1) := by decide +kernel
theorem eL_writeNumbers_21 : decode cL_writeNumbers 21 = .ok (.if_icmp .ge 30, 3) := by decide +kernel
theorem eL_writeNumbers_28 : decode cL_writeNumbers 28 = .ok (.iaload, 1) := by decide +kernel
theorem eL_writeNumbers_33 : decode cL_writeNumbers 33 = .ok (.ldc 124, 2) := by decide +kernel
theorem eL_writeNumbers_35 : decode cL_writeNumbers 35 = .ok (.invokestatic 120, 3) := by decide +kernel
theorem eL_writeNumbers_42 : decode cL_writeNumbers 42 = .ok (.invokestatic 126, 3) := by decide +kernel
theorem eL_writeNumbers_48 : decode cL_writeNumbers 48 = .ok (.goto (-31), 3) := by decide +kernel
theorem eL_writeNumbers_51 : decode cL_writeNumbers 51 = .ok (.return_, 1) := by decide +kernel
theorem kL_randomField_3 : am_dec cL_randomField 3 [.dup] 4 = true := by decide +kernel
theorem kL_randomField_7 : am_dec cL_randomField 7 [.astore_n 3, .aload_n 3, .iconst 2, .aload_n 2, .aload_n 2, .iconst 3] 13 = true := by decide +kernel
theorem kL_randomField_19 : am_dec cL_randomField 19 [.bipush 29] 21 = true := by decide +kernel
theorem kL_randomField_24 : am_dec cL_randomField 24 [.bipush 9] 26 = true := by decide +kernel
theorem kL_randomField_29 : am_dec cL_randomField 29 [.iadd] 30 = true := by decide +kernel
theorem kL_randomField_33 : am_dec cL_randomField 33 [.aload_n 3, .iconst 2, .aload_n 2, .aload_n 2, .iconst 3] 38 = true := by decide +kernel
theorem kL_randomField_44 : am_dec cL_randomField 44 [.bipush 29] 46 = true := by decide +kernel
theorem kL_randomField_49 : am_dec cL_randomField 49 [.bipush 9] 51 = true := by decide +kernel
theorem kL_randomField_54 : am_dec cL_randomField 54 [.iadd] 55 = true := by decide +kernel
theorem kL_randomField_58 : am_dec cL_randomField 58 [.aload_n 0, .aload_n 1] 60 = true := by decide +kernel
theorem kL_randomField_62 : am_dec cL_randomField 62 [.iconst 2] 63 = true := by decide +kernel
theorem kL_randomField_65 : am_dec cL_randomField 65 [.dup, .iconst 0, .aload_n 3] 68 = true := by decide +kernel
theorem kL_randomField_72 : am_dec cL_randomField 72 [.dup, .iconst 1, .aload_n 3] 75 = true := by decide +kernel
theorem kL_randomField_82 : am_dec cL_randomField 82 [.aload_n 0, .aload_n 1] 84 = true := by decide +kernel
theorem kL_randomField_89 : am_dec cL_randomField 89 [.aload_n 2, .bipush 6] 92 = true := by decide +kernel
theorem kL_randomField_95 : am_dec cL_randomField 95 [.istore 4] 97 = true := by decide +kernel
theorem kL_randomField_97 : am_dec cL_randomField 97 [.iload 4] 99 = true := by decide +kernel
theorem kL_randomField_102 : am_dec cL_randomField 102 [.aload_n 2, .aload_n 3] 104 = true := by decide +kernel
theorem kL_randomField_107 : am_dec cL_randomField 107 [.iconst 1, .iadd] 109 = true := by decide +kernel
theorem kL_randomField_112 : am_dec cL_randomField 112 [.istore 5, .aload_n 2, .aload_n 3] 116 = true := by decide +kernel
theorem kL_randomField_119 : am_dec cL_randomField 119 [.iconst 1, .iadd] 121 = true := by decide +kernel
theorem kL_randomField_124 : am_dec cL_randomField 124 [.istore 6, .aload_n 3, .iload 5, .iload 6] 131 = true := by decide +kernel
theorem kL_randomField_140 : am_dec cL_randomField 140 [.aload_n 3] 141 = true := by decide +kernel
theorem kL_randomField_145 : am_dec cL_randomField 145 [.iconst 1, .iadd] 147 = true := by decide +kernel
theorem kL_randomField_150 : am_dec cL_randomField 150 [.astore 7, .iconst 0, .istore 8] 155 = true := by decide +kernel
theorem kL_randomField_155 : am_dec cL_randomField 155 [.iload 8, .aload_n 3] 158 = true := by decide +kernel
theorem kL_randomField_165 : am_dec cL_randomField 165 [.aload 7, .iload 8, .aload_n 3] 170 = true := by decide +kernel
theorem kL_randomField_173 : am_dec cL_randomField 173 [.iload 8] 175 = true := by decide +kernel
theorem kL_randomField_177 : am_dec cL_randomField 177 [.iinc 8 1] 180 = true := by decide +kernel
theorem kL_randomField_183 : am_dec cL_randomField 183 [.aload 7, .aload_n 3] 186 = true := by decide +kernel
theorem kL_randomField_190 : am_dec cL_randomField 190 [.iconst 3] 191 = true := by decide +kernel
theorem kL_randomField_193 : am_dec cL_randomField 193 [.dup, .iconst 0, .iload 5] 197 = true := by decide +kernel
theorem kL_randomField_198 : am_dec cL_randomField 198 [.dup, .iconst 1, .iload 6] 202 = true := by decide +kernel
theorem kL_randomField_203 : am_dec cL_randomField 203 [.dup, .iconst 2, .iconst 1, .aload_n 2, .bipush 99] 209 = true := by decide +kernel
theorem kL_randomField_212 : am_dec cL_randomField 212 [.iadd] 213 = true := by decide +kernel
theorem kL_randomField_215 : am_dec cL_randomField 215 [.aload_n 3, .aload 7] 218 = true := by decide +kernel
theorem kL_randomField_221 : am_dec cL_randomField 221 [.aload_n 0, .aload_n 1] 223 = true := by decide +kernel
theorem kL_randomField_225 : am_dec cL_randomField 225 [.aload 7, .aload_n 3] 228 = true := by decide +kernel
theorem kL_randomField_232 : am_dec cL_randomField 232 [.iconst 1, .isub] 234 = true := by decide +kernel
theorem kL_randomField_238 : am_dec cL_randomField 238 [.aload_n 0, .aload_n 1] 240 = true := by decide +kernel
theorem kL_randomField_245 : am_dec cL_randomField 245 [.iinc 4 (-1)] 248 = true := by decide +kernel
theorem kL_randomField_251 : am_dec cL_randomField 251 [.aload_n 2, .iconst 4] 253 = true := by decide +kernel
theorem kL_randomField_256 : am_dec cL_randomField 256 [.istore 4] 258 = true := by decide +kernel
theorem kL_randomField_258 : am_dec cL_randomField 258 [.iload 4] 260 = true := by decide +kernel
theorem kL_randomField_263 : am_dec cL_randomField 263 [.aload_n 2, .aload_n 3] 265 = true := by decide +kernel
theorem kL_randomField_268 : am_dec cL_randomField 268 [.iconst 1, .iadd] 270 = true := by decide +kernel
theorem kL_randomField_273 : am_dec cL_randomField 273 [.istore 5, .aload_n 2, .aload_n 3] 277 = true := by decide +kernel
theorem kL_randomField_280 : am_dec cL_randomField 280 [.iconst 1, .iadd] 282 = true := by decide +kernel
theorem kL_randomField_285 : am_dec cL_randomField 285 [.istore 6, .aload_n 3, .iload 5, .iload 6] 292 = true := by decide +kernel
theorem kL_randomField_298 : am_dec cL_randomField 298 [.aload_n 3, .iload 5, .iload 6] 303 = true := by decide +kernel
theorem kL_randomField_309 : am_dec cL_randomField 309 [.aload_n 3, .iload 5, .iload 6] 314 = true := by decide +kernel
theorem kL_randomField_323 : am_dec cL_randomField 323 [.aload_n 3] 324 = true := by decide +kernel
theorem kL_randomField_328 : am_dec cL_randomField 328 [.istore 7, .aload_n 3, .aload_n 2, .iconst 4] 333 = true := by decide +kernel
theorem kL_randomField_336 : am_dec cL_randomField 336 [.iload 5, .iload 6] 340 = true := by decide +kernel
theorem kL_randomField_343 : am_dec cL_randomField 343 [.iconst 0, .istore 8] 346 = true := by decide +kernel
theorem kL_randomField_346 : am_dec cL_randomField 346 [.iload 8, .bipush 6] 350 = true := by decide +kernel
theorem kL_randomField_353 : am_dec cL_randomField 353 [.aload_n 2, .aload_n 3] 355 = true := by decide +kernel
theorem kL_randomField_358 : am_dec cL_randomField 358 [.iconst 1, .iadd] 360 = true := by decide +kernel
theorem kL_randomField_363 : am_dec cL_randomField 363 [.istore 5, .aload_n 2, .aload_n 3] 367 = true := by decide +kernel
theorem kL_randomField_370 : am_dec cL_randomField 370 [.iconst 1, .iadd] 372 = true := by decide +kernel
theorem kL_randomField_375 : am_dec cL_randomField 375 [.istore 6, .aload_n 3, .iload 7, .iload 5, .iload 6] 384 = true := by decide +kernel
theorem kL_randomField_390 : am_dec cL_randomField 390 [.aload_n 3] 391 = true := by decide +kernel
theorem kL_randomField_394 : am_dec cL_randomField 394 [.iload 7] 396 = true := by decide +kernel
theorem kL_randomField_397 : am_dec cL_randomField 397 [.aload_n 3] 398 = true := by decide +kernel
theorem kL_randomField_401 : am_dec cL_randomField 401 [.iload 7] 403 = true := by decide +kernel
theorem kL_randomField_407 : am_dec cL_randomField 407 [.aload_n 3] 408 = true := by decide +kernel
theorem kL_randomField_411 : am_dec cL_randomField 411 [.iload 7] 413 = true := by decide +kernel
theorem kL_randomField_418 : am_dec cL_randomField 418 [.bipush 100, .iload 5, .imul, .iload 6, .iadd] 426 = true := by decide +kernel
theorem kL_randomField_432 : am_dec cL_randomField 432 [.iinc 8 1] 435 = true := by decide +kernel
theorem kL_randomField_438 : am_dec cL_randomField 438 [.aload_n 3, .iload 7] 441 = true := by decide +kernel
theorem kL_randomField_447 : am_dec cL_randomField 447 [.aload_n 3, .iload 7] 450 = true := by decide +kernel
theorem kL_randomField_456 : am_dec cL_randomField 456 [.aload_n 3] 457 = true := by decide +kernel
theorem kL_randomField_460 : am_dec cL_randomField 460 [.iload 7] 462 = true := by decide +kernel
theorem kL_randomField_463 : am_dec cL_randomField 463 [.iconst 1] 464 = true := by decide +kernel
theorem kL_randomField_467 : am_dec cL_randomField 467 [.aload_n 0, .aload_n 1] 469 = true := by decide +kernel
theorem kL_randomField_471 : am_dec cL_randomField 471 [.iconst 1] 472 = true := by decide +kernel
theorem kL_randomField_474 : am_dec cL_randomField 474 [.dup, .iconst 0, .aload_n 3] 477 = true := by decide +kernel
theorem kL_randomField_480 : am_dec cL_randomField 480 [.iload 7] 482 = true := by decide +kernel
theorem kL_randomField_490 : am_dec cL_randomField 490 [.aload_n 3] 491 = true := by decide +kernel
theorem kL_randomField_494 : am_dec cL_randomField 494 [.iload 7] 496 = true := by decide +kernel
theorem kL_randomField_500 : am_dec cL_randomField 500 [.astore 8, .aload 8] 504 = true := by decide +kernel
theorem kL_randomField_505 : am_dec cL_randomField 505 [.istore 9, .iconst 0, .istore 10] 510 = true := by decide +kernel
theorem kL_randomField_510 : am_dec cL_randomField 510 [.iload 10, .iload 9] 514 = true := by decide +kernel
theorem kL_randomField_517 : am_dec cL_randomField 517 [.aload 8, .iload 10] 521 = true := by decide +kernel
theorem kL_randomField_522 : am_dec cL_randomField 522 [.istore 11, .aload_n 0, .aload_n 1] 526 = true := by decide +kernel
theorem kL_randomField_528 : am_dec cL_randomField 528 [.iconst 2] 529 = true := by decide +kernel
theorem kL_randomField_531 : am_dec cL_randomField 531 [.dup, .iconst 0, .iload 11, .bipush 100] 537 = true := by decide +kernel
theorem kL_randomField_539 : am_dec cL_randomField 539 [.dup, .iconst 1, .iload 11, .bipush 100] 545 = true := by decide +kernel
theorem kL_randomField_550 : am_dec cL_randomField 550 [.iinc 10 1] 553 = true := by decide +kernel
theorem kL_randomField_556 : am_dec cL_randomField 556 [.aload_n 0, .aload_n 1] 558 = true := by decide +kernel
theorem kL_randomField_563 : am_dec cL_randomField 563 [.iinc 4 (-1)] 566 = true := by decide +kernel
theorem kL_randomField_569 : am_dec cL_randomField 569 [.aload_n 2, .iconst 2] 571 = true := by decide +kernel
theorem kL_randomField_577 : am_dec cL_randomField 577 [.aload_n 3, .aload_n 2, .aload_n 2, .iconst 3] 581 = true := by decide +kernel
theorem kL_randomField_590 : am_dec cL_randomField 590 [.aload_n 0, .aload_n 1] 592 = true := by decide +kernel
theorem kL_randomField_597 : am_dec cL_randomField 597 [.aload_n 0, .aload_n 1, .aload_n 3] 600 = true := by decide +kernel
theorem kL_randomField_603 : am_dec cL_randomField 603 [.iconst 0] 604 = true := by decide +kernel
theorem kL_randomField_610 : am_dec cL_randomField 610 [.aload_n 0, .aload_n 1] 612 = true := by decide +kernel
theorem kL_randomField_617 : am_dec cL_randomField 617 [.aload_n 0, .aload_n 1] 619 = true := by decide +kernel
theorem kL_randomField_622 : am_dec cL_randomField 622 [.aload_n 3] 623 = true := by decide +kernel
theorem kL_randomField_630 : am_dec cL_randomField 630 [.aload_n 3] 631 = true := by decide +kernel
theorem eL_randomField_0 : decode cL_randomField 0 = .ok (.new 129, 3) := by decide +kernel
theorem eL_randomField_4 : decode cL_randomField 4 = .ok (.invokespecial 131, 3) := by decide +kernel
theorem eL_randomField_13 : decode cL_randomField 13 = .ok (.invokevirtual 132, 3) := by decide +kernel
theorem eL_randomField_16 : decode cL_randomField 16 = .ok (.ifCond .ne 8, 3) := by decide +kernel
theorem eL_randomField_21 : decode cL_randomField 21 = .ok (.goto 5, 3) := by decide +kernel
theorem eL_randomField_26 : decode cL_randomField 26 = .ok (.invokevirtual 132, 3) := by decide +kernel
theorem eL_randomField_30 : decode cL_randomField 30 = .ok (.putfield 137, 3) := by decide +kernel
theorem eL_randomField_38 : decode cL_randomField 38 = .ok (.invokevirtual 132, 3) := by decide +kernel
theorem eL_randomField_41 : decode cL_randomField 41 = .ok (.ifCond .ne 8, 3) := by decide +kernel
theorem eL_randomField_46 : decode cL_randomField 46 = .ok (.goto 5, 3) := by decide +kernel
theorem eL_randomField_51 : decode cL_randomField 51 = .ok (.invokevirtual 132, 3) := by decide +kernel
theorem eL_randomField_55 : decode cL_randomField 55 = .ok (.putfield 141, 3) := by decide +kernel
theorem eL_randomField_60 : decode cL_randomField 60 = .ok (.ldc 144, 2) := by decide +kernel
theorem eL_randomField_63 : decode cL_randomField 63 = .ok (.newarray .int, 2) := by decide +kernel
theorem eL_randomField_68 : decode cL_randomField 68 = .ok (.getfield 137, 3) := by decide +kernel
theorem eL_randomField_71 : decode cL_randomField 71 = .ok (.iastore, 1) := by decide +kernel
theorem eL_randomField_75 : decode cL_randomField 75 = .ok (.getfield 141, 3) := by decide +kernel
theorem eL_randomField_78 : decode cL_randomField 78 = .ok (.iastore, 1) := by decide +kernel
theorem eL_randomField_79 : decode cL_randomField 79 = .ok (.invokestatic 146, 3) := by decide +kernel
theorem eL_randomField_84 : decode cL_randomField 84 = .ok (.ldc 150, 2) := by decide +kernel
theorem eL_randomField_86 : decode cL_randomField 86 = .ok (.invokestatic 120, 3) := by decide +kernel
theorem eL_randomField_92 : decode cL_randomField 92 = .ok (.invokevirtual 132, 3) := by decide +kernel
theorem eL_randomField_99 : decode cL_randomField 99 = .ok (.ifCond .le 152, 3) := by decide +kernel
theorem eL_randomField_104 : decode cL_randomField 104 = .ok (.getfield 137, 3) := by decide +kernel
theorem eL_randomField_109 : decode cL_randomField 109 = .ok (.invokevirtual 132, 3) := by decide +kernel
theorem eL_randomField_116 : decode cL_randomField 116 = .ok (.getfield 141, 3) := by decide +kernel
theorem eL_randomField_121 : decode cL_randomField 121 = .ok (.invokevirtual 132, 3) := by decide +kernel
theorem eL_randomField_131 : decode cL_randomField 131 = .ok (.invokevirtual 152, 3) := by decide +kernel
theorem eL_randomField_134 : decode cL_randomField 134 = .ok (.ifCond .eq 6, 3) := by decide +kernel
theorem eL_randomField_137 : decode cL_randomField 137 = .ok (.goto 108, 3) := by decide +kernel
theorem eL_randomField_141 : decode cL_randomField 141 = .ok (.getfield 156, 3) := by decide +kernel
theorem eL_randomField_144 : decode cL_randomField 144 = .ok (.arraylength, 1) := by decide +kernel
theorem eL_randomField_147 : decode cL_randomField 147 = .ok (.anewarray 160, 3) := by decide +kernel
theorem eL_randomField_158 : decode cL_randomField 158 = .ok (.getfield 156, 3) := by decide +kernel
theorem eL_randomField_161 : decode cL_randomField 161 = .ok (.arraylength, 1) := by decide +kernel
theorem eL_randomField_162 : decode cL_randomField 162 = .ok (.if_icmp .ge 21, 3) := by decide +kernel
theorem eL_randomField_170 : decode cL_randomField 170 = .ok (.getfield 156, 3) := by decide +kernel
theorem eL_randomField_175 : decode cL_randomField 175 = .ok (.aaload, 1) := by decide +kernel
theorem eL_randomField_176 : decode cL_randomField 176 = .ok (.aastore, 1) := by decide +kernel
theorem eL_randomField_180 : decode cL_randomField 180 = .ok (.goto (-25), 3) := by decide +kernel
theorem eL_randomField_186 : decode cL_randomField 186 = .ok (.getfield 156, 3) := by decide +kernel
theorem eL_randomField_189 : decode cL_randomField 189 = .ok (.arraylength, 1) := by decide +kernel
theorem eL_randomField_191 : decode cL_randomField 191 = .ok (.newarray .int, 2) := by decide +kernel
theorem eL_randomField_197 : decode cL_randomField 197 = .ok (.iastore, 1) := by decide +kernel
theorem eL_randomField_202 : decode cL_randomField 202 = .ok (.iastore, 1) := by decide +kernel
theorem eL_randomField_209 : decode cL_randomField 209 = .ok (.invokevirtual 132, 3) := by decide +kernel
theorem eL_randomField_213 : decode cL_randomField 213 = .ok (.iastore, 1) := by decide +kernel
theorem eL_randomField_214 : decode cL_randomField 214 = .ok (.aastore, 1) := by decide +kernel
theorem eL_randomField_218 : decode cL_randomField 218 = .ok (.putfield 156, 3) := by decide +kernel
theorem eL_randomField_223 : decode cL_randomField 223 = .ok (.ldc 162, 2) := by decide +kernel
theorem eL_randomField_228 : decode cL_randomField 228 = .ok (.getfield 156, 3) := by decide +kernel
theorem eL_randomField_231 : decode cL_randomField 231 = .ok (.arraylength, 1) := by decide +kernel
theorem eL_randomField_234 : decode cL_randomField 234 = .ok (.aaload, 1) := by decide +kernel
theorem eL_randomField_235 : decode cL_randomField 235 = .ok (.invokestatic 146, 3) := by decide +kernel
theorem eL_randomField_240 : decode cL_randomField 240 = .ok (.ldc 150, 2) := by decide +kernel
theorem eL_randomField_242 : decode cL_randomField 242 = .ok (.invokestatic 120, 3) := by decide +kernel
theorem eL_randomField_248 : decode cL_randomField 248 = .ok (.goto (-151), 3) := by decide +kernel
theorem eL_randomField_253 : decode cL_randomField 253 = .ok (.invokevirtual 132, 3) := by decide +kernel
theorem eL_randomField_260 : decode cL_randomField 260 = .ok (.ifCond .le 309, 3) := by decide +kernel
theorem eL_randomField_265 : decode cL_randomField 265 = .ok (.getfield 137, 3) := by decide +kernel
theorem eL_randomField_270 : decode cL_randomField 270 = .ok (.invokevirtual 132, 3) := by decide +kernel
theorem eL_randomField_277 : decode cL_randomField 277 = .ok (.getfield 141, 3) := by decide +kernel
theorem eL_randomField_282 : decode cL_randomField 282 = .ok (.invokevirtual 132, 3) := by decide +kernel
theorem eL_randomField_292 : decode cL_randomField 292 = .ok (.invokevirtual 152, 3) := by decide +kernel
theorem eL_randomField_295 : decode cL_randomField 295 = .ok (.ifCond .ne 268, 3) := by decide +kernel
theorem eL_randomField_303 : decode cL_randomField 303 = .ok (.invokevirtual 163, 3) := by decide +kernel
theorem eL_randomField_306 : decode cL_randomField 306 = .ok (.ifCond .ne 257, 3) := by decide +kernel
theorem eL_randomField_314 : decode cL_randomField 314 = .ok (.invokevirtual 166, 3) := by decide +kernel
theorem eL_randomField_317 : decode cL_randomField 317 = .ok (.ifCond .eq 6, 3) := by decide +kernel
theorem eL_randomField_320 : decode cL_randomField 320 = .ok (.goto 243, 3) := by decide +kernel
theorem eL_randomField_324 : decode cL_randomField 324 = .ok (.getfield 169, 3) := by decide +kernel
theorem eL_randomField_327 : decode cL_randomField 327 = .ok (.arraylength, 1) := by decide +kernel
theorem eL_randomField_333 : decode cL_randomField 333 = .ok (.invokevirtual 132, 3) := by decide +kernel
theorem eL_randomField_340 : decode cL_randomField 340 = .ok (.invokevirtual 173, 3) := by decide +kernel
theorem eL_randomField_350 : decode cL_randomField 350 = .ok (.if_icmp .ge 88, 3) := by decide +kernel
theorem eL_randomField_355 : decode cL_randomField 355 = .ok (.getfield 137, 3) := by decide +kernel
theorem eL_randomField_360 : decode cL_randomField 360 = .ok (.invokevirtual 132, 3) := by decide +kernel
theorem eL_randomField_367 : decode cL_randomField 367 = .ok (.getfield 141, 3) := by decide +kernel
theorem eL_randomField_372 : decode cL_randomField 372 = .ok (.invokevirtual 132, 3) := by decide +kernel
theorem eL_randomField_384 : decode cL_randomField 384 = .ok (.invokevirtual 177, 3) := by decide +kernel
theorem eL_randomField_387 : decode cL_randomField 387 = .ok (.ifCond .ne 45, 3) := by decide +kernel
theorem eL_randomField_391 : decode cL_randomField 391 = .ok (.getfield 169, 3) := by decide +kernel
theorem eL_randomField_396 : decode cL_randomField 396 = .ok (.aaload, 1) := by decide +kernel
theorem eL_randomField_398 : decode cL_randomField 398 = .ok (.getfield 169, 3) := by decide +kernel
theorem eL_randomField_403 : decode cL_randomField 403 = .ok (.aaload, 1) := by decide +kernel
theorem eL_randomField_404 : decode cL_randomField 404 = .ok (.getfield 178, 3) := by decide +kernel
theorem eL_randomField_408 : decode cL_randomField 408 = .ok (.getfield 169, 3) := by decide +kernel
theorem eL_randomField_413 : decode cL_randomField 413 = .ok (.aaload, 1) := by decide +kernel
theorem eL_randomField_414 : decode cL_randomField 414 = .ok (.getfield 178, 3) := by decide +kernel
theorem eL_randomField_417 : decode cL_randomField 417 = .ok (.arraylength, 1) := by decide +kernel
theorem eL_randomField_426 : decode cL_randomField 426 = .ok (.invokestatic 183, 3) := by decide +kernel
theorem eL_randomField_429 : decode cL_randomField 429 = .ok (.putfield 178, 3) := by decide +kernel
theorem eL_randomField_435 : decode cL_randomField 435 = .ok (.goto (-89), 3) := by decide +kernel
theorem eL_randomField_441 : decode cL_randomField 441 = .ok (.invokevirtual 186, 3) := by decide +kernel
theorem eL_randomField_444 : decode cL_randomField 444 = .ok (.ifCond .eq 12, 3) := by decide +kernel
theorem eL_randomField_450 : decode cL_randomField 450 = .ok (.invokevirtual 187, 3) := by decide +kernel
theorem eL_randomField_453 : decode cL_randomField 453 = .ok (.goto 110, 3) := by decide +kernel
theorem eL_randomField_457 : decode cL_randomField 457 = .ok (.getfield 169, 3) := by decide +kernel
theorem eL_randomField_462 : decode cL_randomField 462 = .ok (.aaload, 1) := by decide +kernel
theorem eL_randomField_464 : decode cL_randomField 464 = .ok (.putfield 190, 3) := by decide +kernel
theorem eL_randomField_469 : decode cL_randomField 469 = .ok (.ldc 194, 2) := by decide +kernel
theorem eL_randomField_472 : decode cL_randomField 472 = .ok (.newarray .int, 2) := by decide +kernel
theorem eL_randomField_477 : decode cL_randomField 477 = .ok (.getfield 169, 3) := by decide +kernel
theorem eL_randomField_482 : decode cL_randomField 482 = .ok (.aaload, 1) := by decide +kernel
theorem eL_randomField_483 : decode cL_randomField 483 = .ok (.getfield 195, 3) := by decide +kernel
theorem eL_randomField_486 : decode cL_randomField 486 = .ok (.iastore, 1) := by decide +kernel
theorem eL_randomField_487 : decode cL_randomField 487 = .ok (.invokestatic 146, 3) := by decide +kernel
theorem eL_randomField_491 : decode cL_randomField 491 = .ok (.getfield 169, 3) := by decide +kernel
theorem eL_randomField_496 : decode cL_randomField 496 = .ok (.aaload, 1) := by decide +kernel
theorem eL_randomField_497 : decode cL_randomField 497 = .ok (.getfield 178, 3) := by decide +kernel
theorem eL_randomField_504 : decode cL_randomField 504 = .ok (.arraylength, 1) := by decide +kernel
theorem eL_randomField_514 : decode cL_randomField 514 = .ok (.if_icmp .ge 42, 3) := by decide +kernel
theorem eL_randomField_521 : decode cL_randomField 521 = .ok (.iaload, 1) := by decide +kernel
theorem eL_randomField_526 : decode cL_randomField 526 = .ok (.ldc 198, 2) := by decide +kernel
theorem eL_randomField_529 : decode cL_randomField 529 = .ok (.newarray .int, 2) := by decide +kernel
theorem eL_randomField_537 : decode cL_randomField 537 = .ok (.idiv, 1) := by decide +kernel
theorem eL_randomField_538 : decode cL_randomField 538 = .ok (.iastore, 1) := by decide +kernel
theorem eL_randomField_545 : decode cL_randomField 545 = .ok (.irem, 1) := by decide +kernel
theorem eL_randomField_546 : decode cL_randomField 546 = .ok (.iastore, 1) := by decide +kernel
theorem eL_randomField_547 : decode cL_randomField 547 = .ok (.invokestatic 146, 3) := by decide +kernel
theorem eL_randomField_553 : decode cL_randomField 553 = .ok (.goto (-43), 3) := by decide +kernel
theorem eL_randomField_558 : decode cL_randomField 558 = .ok (.ldc 200, 2) := by decide +kernel
theorem eL_randomField_560 : decode cL_randomField 560 = .ok (.invokestatic 120, 3) := by decide +kernel
theorem eL_randomField_566 : decode cL_randomField 566 = .ok (.goto (-308), 3) := by decide +kernel
theorem eL_randomField_571 : decode cL_randomField 571 = .ok (.invokevirtual 132, 3) := by decide +kernel
theorem eL_randomField_574 : decode cL_randomField 574 = .ok (.ifCond .ne 43, 3) := by decide +kernel
theorem eL_randomField_581 : decode cL_randomField 581 = .ok (.invokevirtual 132, 3) := by decide +kernel
theorem eL_randomField_584 : decode cL_randomField 584 = .ok (.invokestatic 202, 3) := by decide +kernel
theorem eL_randomField_587 : decode cL_randomField 587 = .ok (.putfield 208, 3) := by decide +kernel
theorem eL_randomField_592 : decode cL_randomField 592 = .ok (.ldc 212, 2) := by decide +kernel
theorem eL_randomField_594 : decode cL_randomField 594 = .ok (.invokestatic 120, 3) := by decide +kernel
theorem eL_randomField_600 : decode cL_randomField 600 = .ok (.getfield 208, 3) := by decide +kernel
theorem eL_randomField_604 : decode cL_randomField 604 = .ok (.invokevirtual 214, 3) := by decide +kernel
theorem eL_randomField_607 : decode cL_randomField 607 = .ok (.invokestatic 120, 3) := by decide +kernel
theorem eL_randomField_612 : decode cL_randomField 612 = .ok (.ldc 150, 2) := by decide +kernel
theorem eL_randomField_614 : decode cL_randomField 614 = .ok (.invokestatic 120, 3) := by decide +kernel
theorem eL_randomField_619 : decode cL_randomField 619 = .ok (.invokestatic 218, 3) := by decide +kernel
theorem eL_randomField_623 : decode cL_randomField 623 = .ok (.getfield 169, 3) := by decide +kernel
theorem eL_randomField_626 : decode cL_randomField 626 = .ok (.arraylength, 1) := by decide +kernel
theorem eL_randomField_627 : decode cL_randomField 627 = .ok (.if_icmp .ne 7, 3) := by decide +kernel
theorem eL_randomField_631 : decode cL_randomField 631 = .ok (.goto 4, 3) := by decide +kernel
theorem eL_randomField_634 : decode cL_randomField 634 = .ok (.aconst_null, 1) := by decide +kernel
theorem eL_randomField_635 : decode cL_randomField 635 = .ok (.areturn, 1) := by decide +kernel
theorem kL_agrees_0 : am_dec cL_agrees 0 [.aload_n 0, .iconst 0] 2 = true := by decide +kernel
theorem kL_agrees_5 : am_dec cL_agrees 5 [.aload_n 1] 6 = true := by decide +kernel
theorem kL_agrees_12 : am_dec cL_agrees 12 [.aload_n 0, .iconst 1] 14 = true := by decide +kernel
theorem kL_agrees_17 : am_dec cL_agrees 17 [.aload_n 1] 18 = true := by decide +kernel
theorem kL_agrees_24 : am_dec cL_agrees 24 [.aload_n 0, .iconst 2] 26 = true := by decide +kernel
theorem kL_agrees_29 : am_dec cL_agrees 29 [.aload_n 1] 30 = true := by decide +kernel
theorem kL_agrees_37 : am_dec cL_agrees 37 [.aload_n 0, .iconst 3] 39 = true := by decide +kernel
theorem kL_agrees_42 : am_dec cL_agrees 42 [.aload_n 1] 43 = true := by decide +kernel
theorem kL_agrees_50 : am_dec cL_agrees 50 [.aload_n 0, .iconst 5] 52 = true := by decide +kernel
theorem kL_agrees_55 : am_dec cL_agrees 55 [.aload_n 1, .iconst (-1)] 57 = true := by decide +kernel
theorem kL_agrees_63 : am_dec cL_agrees 63 [.aload_n 0] 64 = true := by decide +kernel
theorem kL_agrees_67 : am_dec cL_agrees 67 [.aload_n 1] 68 = true := by decide +kernel
theorem kL_agrees_75 : am_dec cL_agrees 75 [.iconst 1] 76 = true := by decide +kernel
theorem kL_agrees_79 : am_dec cL_agrees 79 [.iconst 0] 80 = true := by decide +kernel
theorem kL_agrees_80 : am_dec cL_agrees 80 [.istore_n 2, .iconst 0, .istore_n 3] 83 = true := by decide +kernel
theorem kL_agrees_83 : am_dec cL_agrees 83 [.iload_n 3, .aload_n 1] 85 = true := by decide +kernel
theorem kL_agrees_92 : am_dec cL_agrees 92 [.iload_n 2] 93 = true := by decide +kernel
theorem kL_agrees_96 : am_dec cL_agrees 96 [.aload_n 1] 97 = true := by decide +kernel
theorem kL_agrees_100 : am_dec cL_agrees 100 [.iload_n 3] 101 = true := by decide +kernel
theorem kL_agrees_102 : am_dec cL_agrees 102 [.astore 4, .aload_n 0, .iload_n 3, .iconst 0] 107 = true := by decide +kernel
theorem kL_agrees_110 : am_dec cL_agrees 110 [.aload 4] 112 = true := by decide +kernel
theorem kL_agrees_118 : am_dec cL_agrees 118 [.aload_n 0, .iload_n 3, .iconst 1] 121 = true := by decide +kernel
theorem kL_agrees_124 : am_dec cL_agrees 124 [.aload 4] 126 = true := by decide +kernel
theorem kL_agrees_133 : am_dec cL_agrees 133 [.aload_n 0, .iload_n 3, .iconst 2] 136 = true := by decide +kernel
theorem kL_agrees_139 : am_dec cL_agrees 139 [.aload 4] 141 = true := by decide +kernel
theorem kL_agrees_147 : am_dec cL_agrees 147 [.iconst 1] 148 = true := by decide +kernel
theorem kL_agrees_151 : am_dec cL_agrees 151 [.iconst 0] 152 = true := by decide +kernel
theorem kL_agrees_155 : am_dec cL_agrees 155 [.aload_n 0, .iload_n 3, .aload 4] 159 = true := by decide +kernel
theorem kL_agrees_171 : am_dec cL_agrees 171 [.iconst 1] 172 = true := by decide +kernel
theorem kL_agrees_175 : am_dec cL_agrees 175 [.iconst 0] 176 = true := by decide +kernel
theorem kL_agrees_176 : am_dec cL_agrees 176 [.istore_n 2, .iconst 0, .istore 5] 180 = true := by decide +kernel
theorem kL_agrees_180 : am_dec cL_agrees 180 [.iload 5, .aload 4] 184 = true := by decide +kernel
theorem kL_agrees_191 : am_dec cL_agrees 191 [.iload_n 2] 192 = true := by decide +kernel
theorem kL_agrees_195 : am_dec cL_agrees 195 [.aload_n 0, .iload_n 3, .iload 5] 199 = true := by decide +kernel
theorem kL_agrees_202 : am_dec cL_agrees 202 [.aload 4] 204 = true := by decide +kernel
theorem kL_agrees_207 : am_dec cL_agrees 207 [.iload 5] 209 = true := by decide +kernel
theorem kL_agrees_213 : am_dec cL_agrees 213 [.iconst 1] 214 = true := by decide +kernel
theorem kL_agrees_217 : am_dec cL_agrees 217 [.iconst 0] 218 = true := by decide +kernel
theorem kL_agrees_218 : am_dec cL_agrees 218 [.istore_n 2, .iinc 5 1] 222 = true := by decide +kernel
theorem kL_agrees_225 : am_dec cL_agrees 225 [.iinc 3 1] 228 = true := by decide +kernel
theorem kL_agrees_231 : am_dec cL_agrees 231 [.iconst 0, .istore_n 3] 233 = true := by decide +kernel
theorem kL_agrees_233 : am_dec cL_agrees 233 [.iload_n 3, .aload_n 1] 235 = true := by decide +kernel
theorem kL_agrees_242 : am_dec cL_agrees 242 [.iload_n 2] 243 = true := by decide +kernel
theorem kL_agrees_246 : am_dec cL_agrees 246 [.aload_n 0, .iload_n 3, .iconst 0] 249 = true := by decide +kernel
theorem kL_agrees_252 : am_dec cL_agrees 252 [.aload_n 1] 253 = true := by decide +kernel
theorem kL_agrees_256 : am_dec cL_agrees 256 [.iload_n 3] 257 = true := by decide +kernel
theorem kL_agrees_258 : am_dec cL_agrees 258 [.iconst 0] 259 = true := by decide +kernel
theorem kL_agrees_263 : am_dec cL_agrees 263 [.aload_n 0, .iload_n 3, .iconst 2] 266 = true := by decide +kernel
theorem kL_agrees_269 : am_dec cL_agrees 269 [.aload_n 1] 270 = true := by decide +kernel
theorem kL_agrees_273 : am_dec cL_agrees 273 [.iload_n 3] 274 = true := by decide +kernel
theorem kL_agrees_275 : am_dec cL_agrees 275 [.iconst 2] 276 = true := by decide +kernel
theorem kL_agrees_280 : am_dec cL_agrees 280 [.aload_n 0, .iload_n 3, .iconst 3] 283 = true := by decide +kernel
theorem kL_agrees_286 : am_dec cL_agrees 286 [.aload_n 1, .iload_n 3] 288 = true := by decide +kernel
theorem kL_agrees_294 : am_dec cL_agrees 294 [.iconst 1] 295 = true := by decide +kernel
theorem kL_agrees_298 : am_dec cL_agrees 298 [.iconst 0] 299 = true := by decide +kernel
theorem kL_agrees_299 : am_dec cL_agrees 299 [.istore_n 2, .iinc 3 1] 303 = true := by decide +kernel
theorem kL_agrees_306 : am_dec cL_agrees 306 [.iload_n 2] 307 = true := by decide +kernel
theorem kL_agrees_310 : am_dec cL_agrees 310 [.aload_n 0, .aload_n 1] 312 = true := by decide +kernel
theorem kL_agrees_316 : am_dec cL_agrees 316 [.iconst 0] 317 = true := by decide +kernel
theorem kL_agrees_325 : am_dec cL_agrees 325 [.aload_n 0, .aload_n 1] 327 = true := by decide +kernel
theorem kL_agrees_331 : am_dec cL_agrees 331 [.iconst 0] 332 = true := by decide +kernel
theorem kL_agrees_340 : am_dec cL_agrees 340 [.aload_n 0, .bipush 6] 343 = true := by decide +kernel
theorem kL_agrees_351 : am_dec cL_agrees 351 [.iconst 1] 352 = true := by decide +kernel
theorem kL_agrees_355 : am_dec cL_agrees 355 [.iconst 0] 356 = true := by decide +kernel
theorem eL_agrees_2 : decode cL_agrees 2 = .ok (.invokestatic 222, 3) := by decide +kernel
theorem eL_agrees_6 : decode cL_agrees 6 = .ok (.getfield 137, 3) := by decide +kernel
theorem eL_agrees_9 : decode cL_agrees 9 = .ok (.if_icmp .ne 70, 3) := by decide +kernel
theorem eL_agrees_14 : decode cL_agrees 14 = .ok (.invokestatic 222, 3) := by decide +kernel
theorem eL_agrees_18 : decode cL_agrees 18 = .ok (.getfield 141, 3) := by decide +kernel
theorem eL_agrees_21 : decode cL_agrees 21 = .ok (.if_icmp .ne 58, 3) := by decide +kernel
theorem eL_agrees_26 : decode cL_agrees 26 = .ok (.invokestatic 222, 3) := by decide +kernel
theorem eL_agrees_30 : decode cL_agrees 30 = .ok (.getfield 156, 3) := by decide +kernel
theorem eL_agrees_33 : decode cL_agrees 33 = .ok (.arraylength, 1) := by decide +kernel
theorem eL_agrees_34 : decode cL_agrees 34 = .ok (.if_icmp .ne 45, 3) := by decide +kernel
theorem eL_agrees_39 : decode cL_agrees 39 = .ok (.invokestatic 222, 3) := by decide +kernel
theorem eL_agrees_43 : decode cL_agrees 43 = .ok (.getfield 169, 3) := by decide +kernel
theorem eL_agrees_46 : decode cL_agrees 46 = .ok (.arraylength, 1) := by decide +kernel
theorem eL_agrees_47 : decode cL_agrees 47 = .ok (.if_icmp .ne 32, 3) := by decide +kernel
theorem eL_agrees_52 : decode cL_agrees 52 = .ok (.invokestatic 222, 3) := by decide +kernel
theorem eL_agrees_57 : decode cL_agrees 57 = .ok (.invokevirtual 224, 3) := by decide +kernel
theorem eL_agrees_60 : decode cL_agrees 60 = .ok (.if_icmp .ne 19, 3) := by decide +kernel
theorem eL_agrees_64 : decode cL_agrees 64 = .ok (.invokevirtual 227, 3) := by decide +kernel
theorem eL_agrees_68 : decode cL_agrees 68 = .ok (.invokevirtual 231, 3) := by decide +kernel
theorem eL_agrees_71 : decode cL_agrees 71 = .ok (.lcmp, 1) := by decide +kernel
theorem eL_agrees_72 : decode cL_agrees 72 = .ok (.ifCond .ne 7, 3) := by decide +kernel
theorem eL_agrees_76 : decode cL_agrees 76 = .ok (.goto 4, 3) := by decide +kernel
theorem eL_agrees_85 : decode cL_agrees 85 = .ok (.getfield 169, 3) := by decide +kernel
theorem eL_agrees_88 : decode cL_agrees 88 = .ok (.arraylength, 1) := by decide +kernel
theorem eL_agrees_89 : decode cL_agrees 89 = .ok (.if_icmp .ge 142, 3) := by decide +kernel
theorem eL_agrees_93 : decode cL_agrees 93 = .ok (.ifCond .eq 138, 3) := by decide +kernel
theorem eL_agrees_97 : decode cL_agrees 97 = .ok (.getfield 169, 3) := by decide +kernel
theorem eL_agrees_101 : decode cL_agrees 101 = .ok (.aaload, 1) := by decide +kernel
theorem eL_agrees_107 : decode cL_agrees 107 = .ok (.invokestatic 234, 3) := by decide +kernel
theorem eL_agrees_112 : decode cL_agrees 112 = .ok (.getfield 195, 3) := by decide +kernel
theorem eL_agrees_115 : decode cL_agrees 115 = .ok (.if_icmp .ne 60, 3) := by decide +kernel
theorem eL_agrees_121 : decode cL_agrees 121 = .ok (.invokestatic 234, 3) := by decide +kernel
theorem eL_agrees_126 : decode cL_agrees 126 = .ok (.getfield 178, 3) := by decide +kernel
theorem eL_agrees_129 : decode cL_agrees 129 = .ok (.arraylength, 1) := by decide +kernel
theorem eL_agrees_130 : decode cL_agrees 130 = .ok (.if_icmp .ne 45, 3) := by decide +kernel
theorem eL_agrees_136 : decode cL_agrees 136 = .ok (.invokestatic 234, 3) := by decide +kernel
theorem eL_agrees_141 : decode cL_agrees 141 = .ok (.getfield 190, 3) := by decide +kernel
theorem eL_agrees_144 : decode cL_agrees 144 = .ok (.ifCond .eq 7, 3) := by decide +kernel
theorem eL_agrees_148 : decode cL_agrees 148 = .ok (.goto 4, 3) := by decide +kernel
theorem eL_agrees_152 : decode cL_agrees 152 = .ok (.if_icmp .ne 23, 3) := by decide +kernel
theorem eL_agrees_159 : decode cL_agrees 159 = .ok (.getfield 178, 3) := by decide +kernel
theorem eL_agrees_162 : decode cL_agrees 162 = .ok (.arraylength, 1) := by decide +kernel
theorem eL_agrees_163 : decode cL_agrees 163 = .ok (.invokestatic 237, 3) := by decide +kernel
theorem eL_agrees_166 : decode cL_agrees 166 = .ok (.ldc 52, 2) := by decide +kernel
theorem eL_agrees_168 : decode cL_agrees 168 = .ok (.if_icmp .ne 7, 3) := by decide +kernel
theorem eL_agrees_172 : decode cL_agrees 172 = .ok (.goto 4, 3) := by decide +kernel
theorem eL_agrees_184 : decode cL_agrees 184 = .ok (.getfield 178, 3) := by decide +kernel
theorem eL_agrees_187 : decode cL_agrees 187 = .ok (.arraylength, 1) := by decide +kernel
theorem eL_agrees_188 : decode cL_agrees 188 = .ok (.if_icmp .ge 37, 3) := by decide +kernel
theorem eL_agrees_192 : decode cL_agrees 192 = .ok (.ifCond .eq 33, 3) := by decide +kernel
theorem eL_agrees_199 : decode cL_agrees 199 = .ok (.invokestatic 237, 3) := by decide +kernel
theorem eL_agrees_204 : decode cL_agrees 204 = .ok (.getfield 178, 3) := by decide +kernel
theorem eL_agrees_209 : decode cL_agrees 209 = .ok (.iaload, 1) := by decide +kernel
theorem eL_agrees_210 : decode cL_agrees 210 = .ok (.if_icmp .ne 7, 3) := by decide +kernel
theorem eL_agrees_214 : decode cL_agrees 214 = .ok (.goto 4, 3) := by decide +kernel
theorem eL_agrees_222 : decode cL_agrees 222 = .ok (.goto (-42), 3) := by decide +kernel
theorem eL_agrees_228 : decode cL_agrees 228 = .ok (.goto (-145), 3) := by decide +kernel
theorem eL_agrees_235 : decode cL_agrees 235 = .ok (.getfield 156, 3) := by decide +kernel
theorem eL_agrees_238 : decode cL_agrees 238 = .ok (.arraylength, 1) := by decide +kernel
theorem eL_agrees_239 : decode cL_agrees 239 = .ok (.if_icmp .ge 67, 3) := by decide +kernel
theorem eL_agrees_243 : decode cL_agrees 243 = .ok (.ifCond .eq 63, 3) := by decide +kernel
theorem eL_agrees_249 : decode cL_agrees 249 = .ok (.invokestatic 239, 3) := by decide +kernel
theorem eL_agrees_253 : decode cL_agrees 253 = .ok (.getfield 156, 3) := by decide +kernel
theorem eL_agrees_257 : decode cL_agrees 257 = .ok (.aaload, 1) := by decide +kernel
theorem eL_agrees_259 : decode cL_agrees 259 = .ok (.iaload, 1) := by decide +kernel
theorem eL_agrees_260 : decode cL_agrees 260 = .ok (.if_icmp .ne 38, 3) := by decide +kernel
theorem eL_agrees_266 : decode cL_agrees 266 = .ok (.invokestatic 239, 3) := by decide +kernel
theorem eL_agrees_270 : decode cL_agrees 270 = .ok (.getfield 156, 3) := by decide +kernel
theorem eL_agrees_274 : decode cL_agrees 274 = .ok (.aaload, 1) := by decide +kernel
theorem eL_agrees_276 : decode cL_agrees 276 = .ok (.iaload, 1) := by decide +kernel
theorem eL_agrees_277 : decode cL_agrees 277 = .ok (.if_icmp .ne 21, 3) := by decide +kernel
theorem eL_agrees_283 : decode cL_agrees 283 = .ok (.invokestatic 239, 3) := by decide +kernel
theorem eL_agrees_288 : decode cL_agrees 288 = .ok (.invokevirtual 241, 3) := by decide +kernel
theorem eL_agrees_291 : decode cL_agrees 291 = .ok (.if_icmp .ne 7, 3) := by decide +kernel
theorem eL_agrees_295 : decode cL_agrees 295 = .ok (.goto 4, 3) := by decide +kernel
theorem eL_agrees_303 : decode cL_agrees 303 = .ok (.goto (-70), 3) := by decide +kernel
theorem eL_agrees_307 : decode cL_agrees 307 = .ok (.ifCond .eq 48, 3) := by decide +kernel
theorem eL_agrees_312 : decode cL_agrees 312 = .ok (.getfield 156, 3) := by decide +kernel
theorem eL_agrees_315 : decode cL_agrees 315 = .ok (.arraylength, 1) := by decide +kernel
theorem eL_agrees_317 : decode cL_agrees 317 = .ok (.invokestatic 239, 3) := by decide +kernel
theorem eL_agrees_320 : decode cL_agrees 320 = .ok (.ldc 52, 2) := by decide +kernel
theorem eL_agrees_322 : decode cL_agrees 322 = .ok (.if_icmp .ne 33, 3) := by decide +kernel
theorem eL_agrees_327 : decode cL_agrees 327 = .ok (.getfield 169, 3) := by decide +kernel
theorem eL_agrees_330 : decode cL_agrees 330 = .ok (.arraylength, 1) := by decide +kernel
theorem eL_agrees_332 : decode cL_agrees 332 = .ok (.invokestatic 234, 3) := by decide +kernel
theorem eL_agrees_335 : decode cL_agrees 335 = .ok (.ldc 58, 2) := by decide +kernel
theorem eL_agrees_337 : decode cL_agrees 337 = .ok (.if_icmp .ne 18, 3) := by decide +kernel
theorem eL_agrees_343 : decode cL_agrees 343 = .ok (.invokestatic 222, 3) := by decide +kernel
theorem eL_agrees_346 : decode cL_agrees 346 = .ok (.ldc 42, 2) := by decide +kernel
theorem eL_agrees_348 : decode cL_agrees 348 = .ok (.if_icmp .ne 7, 3) := by decide +kernel
theorem eL_agrees_352 : decode cL_agrees 352 = .ok (.goto 4, 3) := by decide +kernel
theorem eL_agrees_356 : decode cL_agrees 356 = .ok (.ireturn, 1) := by decide +kernel
theorem kL_law_0 : am_dec cL_law 0 [.iconst 1, .istore_n 1, .iconst 0, .istore_n 2] 4 = true := by decide +kernel
theorem kL_law_4 : am_dec cL_law 4 [.iload_n 2, .aload_n 0] 6 = true := by decide +kernel
theorem kL_law_10 : am_dec cL_law 10 [.iload_n 2, .iconst 2] 12 = true := by decide +kernel
theorem kL_law_15 : am_dec cL_law 15 [.iload_n 1] 16 = true := by decide +kernel
theorem kL_law_22 : am_dec cL_law 22 [.dup] 23 = true := by decide +kernel
theorem kL_law_26 : am_dec cL_law 26 [.astore_n 3, .bipush 8] 29 = true := by decide +kernel
theorem kL_law_31 : am_dec cL_law 31 [.astore 4] 33 = true := by decide +kernel
theorem kL_law_36 : am_dec cL_law 36 [.dup, .aload_n 0, .iload_n 2] 39 = true := by decide +kernel
theorem kL_law_43 : am_dec cL_law 43 [.astore 5, .aload_n 3] 46 = true := by decide +kernel
theorem kL_law_49 : am_dec cL_law 49 [.dup] 50 = true := by decide +kernel
theorem kL_law_59 : am_dec cL_law 59 [.aload_n 3] 60 = true := by decide +kernel
theorem kL_law_63 : am_dec cL_law 63 [.iconst (-1)] 64 = true := by decide +kernel
theorem kL_law_67 : am_dec cL_law 67 [.aload_n 3] 68 = true := by decide +kernel
theorem kL_law_71 : am_dec cL_law 71 [.iconst (-1)] 72 = true := by decide +kernel
theorem kL_law_75 : am_dec cL_law 75 [.aload_n 3, .iconst 4, .iconst 0, .iconst 0] 79 = true := by decide +kernel
theorem kL_law_87 : am_dec cL_law 87 [.aload_n 3, .iconst 0, .iconst 3, .iconst 0] 91 = true := by decide +kernel
theorem kL_law_99 : am_dec cL_law 99 [.aload_n 3, .iconst 0, .iconst 1, .iconst 1] 103 = true := by decide +kernel
theorem kL_law_109 : am_dec cL_law 109 [.aload_n 3, .iconst 0, .iconst 1, .iconst 1] 113 = true := by decide +kernel
theorem kL_law_116 : am_dec cL_law 116 [.bipush (-3)] 118 = true := by decide +kernel
theorem kL_law_121 : am_dec cL_law 121 [.aload_n 3, .iconst 0] 123 = true := by decide +kernel
theorem kL_law_126 : am_dec cL_law 126 [.bipush (-6)] 128 = true := by decide +kernel
theorem kL_law_131 : am_dec cL_law 131 [.aload_n 3] 132 = true := by decide +kernel
theorem kL_law_135 : am_dec cL_law 135 [.iconst 2] 136 = true := by decide +kernel
theorem kL_law_139 : am_dec cL_law 139 [.aload_n 3] 140 = true := by decide +kernel
theorem kL_law_143 : am_dec cL_law 143 [.iconst 1] 144 = true := by decide +kernel
theorem kL_law_147 : am_dec cL_law 147 [.aload_n 3] 148 = true := by decide +kernel
theorem kL_law_154 : am_dec cL_law 154 [.aload_n 3, .iconst 0, .iconst 0, .iconst 0] 158 = true := by decide +kernel
theorem kL_law_166 : am_dec cL_law 166 [.aload_n 3] 167 = true := by decide +kernel
theorem kL_law_173 : am_dec cL_law 173 [.iconst 1] 174 = true := by decide +kernel
theorem kL_law_177 : am_dec cL_law 177 [.iconst 0] 178 = true := by decide +kernel
theorem kL_law_178 : am_dec cL_law 178 [.istore_n 1, .aload_n 3, .aload 4, .aload 5] 184 = true := by decide +kernel
theorem kL_law_187 : am_dec cL_law 187 [.astore 6, .aload 6] 191 = true := by decide +kernel
theorem kL_law_194 : am_dec cL_law 194 [.iconst 0] 195 = true := by decide +kernel
theorem kL_law_196 : am_dec cL_law 196 [.iload_n 1] 197 = true := by decide +kernel
theorem kL_law_200 : am_dec cL_law 200 [.aload_n 3, .aload 6] 203 = true := by decide +kernel
theorem kL_law_209 : am_dec cL_law 209 [.iconst 1] 210 = true := by decide +kernel
theorem kL_law_213 : am_dec cL_law 213 [.iconst 0] 214 = true := by decide +kernel
theorem kL_law_214 : am_dec cL_law 214 [.istore_n 1, .bipush 9] 217 = true := by decide +kernel
theorem kL_law_220 : am_dec cL_law 220 [.astore 7, .iconst 0, .istore 8, .iconst 0, .istore 9] 228 = true := by decide +kernel
theorem kL_law_228 : am_dec cL_law 228 [.iload 9, .bipush 40] 232 = true := by decide +kernel
theorem kL_law_235 : am_dec cL_law 235 [.iload_n 1] 236 = true := by decide +kernel
theorem kL_law_239 : am_dec cL_law 239 [.aload 6] 241 = true := by decide +kernel
theorem kL_law_244 : am_dec cL_law 244 [.astore 10, .iconst 1, .istore 11] 249 = true := by decide +kernel
theorem kL_law_251 : am_dec cL_law 251 [.istore 12, .aload 6] 255 = true := by decide +kernel
theorem kL_law_259 : am_dec cL_law 259 [.istore 13, .aload 5, .iload 13, .aload 5, .bipush 12] 269 = true := by decide +kernel
theorem kL_law_275 : am_dec cL_law 275 [.iload 13] 277 = true := by decide +kernel
theorem kL_law_280 : am_dec cL_law 280 [.iconst 1] 281 = true := by decide +kernel
theorem kL_law_284 : am_dec cL_law 284 [.iconst 0] 285 = true := by decide +kernel
theorem kL_law_285 : am_dec cL_law 285 [.iadd] 286 = true := by decide +kernel
theorem kL_law_289 : am_dec cL_law 289 [.istore 14, .aload 5, .aload 6] 295 = true := by decide +kernel
theorem kL_law_298 : am_dec cL_law 298 [.iconst 1, .iadd] 300 = true := by decide +kernel
theorem kL_law_303 : am_dec cL_law 303 [.istore 15, .aload 5, .aload 6] 309 = true := by decide +kernel
theorem kL_law_312 : am_dec cL_law 312 [.iconst 1, .iadd] 314 = true := by decide +kernel
theorem kL_law_317 : am_dec cL_law 317 [.istore 16, .iload 14, .iload 13] 323 = true := by decide +kernel
theorem kL_law_326 : am_dec cL_law 326 [.iconst 1] 327 = true := by decide +kernel
theorem kL_law_330 : am_dec cL_law 330 [.iconst 0] 331 = true := by decide +kernel
theorem kL_law_331 : am_dec cL_law 331 [.istore 17, .iload 17] 335 = true := by decide +kernel
theorem kL_law_338 : am_dec cL_law 338 [.aload 6] 340 = true := by decide +kernel
theorem kL_law_343 : am_dec cL_law 343 [.iload 14] 345 = true := by decide +kernel
theorem kL_law_353 : am_dec cL_law 353 [.iconst 0] 354 = true := by decide +kernel
theorem kL_law_354 : am_dec cL_law 354 [.istore 18, .aload 5, .iload 18, .aload 5, .bipush 9] 364 = true := by decide +kernel
theorem kL_law_370 : am_dec cL_law 370 [.iload 18] 372 = true := by decide +kernel
theorem kL_law_375 : am_dec cL_law 375 [.iconst 1] 376 = true := by decide +kernel
theorem kL_law_379 : am_dec cL_law 379 [.iconst 0] 380 = true := by decide +kernel
theorem kL_law_380 : am_dec cL_law 380 [.iadd] 381 = true := by decide +kernel
theorem kL_law_384 : am_dec cL_law 384 [.istore 19, .iload 17] 388 = true := by decide +kernel
theorem kL_law_391 : am_dec cL_law 391 [.aload 6] 393 = true := by decide +kernel
theorem kL_law_396 : am_dec cL_law 396 [.iload 14] 398 = true := by decide +kernel
theorem kL_law_403 : am_dec cL_law 403 [.astore 20, .aload 5, .bipush 9] 409 = true := by decide +kernel
theorem kL_law_452 : am_dec cL_law 452 [.aload 5, .aload 5, .bipush 9] 458 = true := by decide +kernel
theorem kL_law_464 : am_dec cL_law 464 [.iconst 5] 465 = true := by decide +kernel
theorem kL_law_468 : am_dec cL_law 468 [.iconst 4] 469 = true := by decide +kernel
theorem kL_law_472 : am_dec cL_law 472 [.istore 21, .iload 21, .iconst 4] 477 = true := by decide +kernel
theorem kL_law_480 : am_dec cL_law 480 [.iload 13, .bipush 6] 484 = true := by decide +kernel
theorem kL_law_487 : am_dec cL_law 487 [.iconst 1] 488 = true := by decide +kernel
theorem kL_law_491 : am_dec cL_law 491 [.iconst 0] 492 = true := by decide +kernel
theorem kL_law_492 : am_dec cL_law 492 [.istore 11, .iload 21, .iconst 3] 497 = true := by decide +kernel
theorem kL_law_507 : am_dec cL_law 507 [.istore 12, .iload 11] 511 = true := by decide +kernel
theorem kL_law_514 : am_dec cL_law 514 [.aload 6, .iload 15, .iload 16] 520 = true := by decide +kernel
theorem kL_law_526 : am_dec cL_law 526 [.aload 6, .iload 15, .iload 16] 532 = true := by decide +kernel
theorem kL_law_538 : am_dec cL_law 538 [.aload 6, .iload 15, .iload 16] 544 = true := by decide +kernel
theorem kL_law_550 : am_dec cL_law 550 [.iconst 1] 551 = true := by decide +kernel
theorem kL_law_554 : am_dec cL_law 554 [.iconst 0] 555 = true := by decide +kernel
theorem kL_law_555 : am_dec cL_law 555 [.istore 22, .iload 22] 559 = true := by decide +kernel
theorem kL_law_562 : am_dec cL_law 562 [.iload 13] 564 = true := by decide +kernel
theorem kL_law_567 : am_dec cL_law 567 [.bipush (-3)] 569 = true := by decide +kernel
theorem kL_law_569 : am_dec cL_law 569 [.istore 12, .iload 22] 573 = true := by decide +kernel
theorem kL_law_576 : am_dec cL_law 576 [.aload 6, .iload 21, .iload 15, .iload 16] 584 = true := by decide +kernel
theorem kL_law_587 : am_dec cL_law 587 [.aload_n 3, .iload 21, .iload 15, .iload 16] 594 = true := by decide +kernel
theorem kL_law_597 : am_dec cL_law 597 [.iload 12] 599 = true := by decide +kernel
theorem kL_law_602 : am_dec cL_law 602 [.iconst 1] 603 = true := by decide +kernel
theorem kL_law_606 : am_dec cL_law 606 [.iconst 0] 607 = true := by decide +kernel
theorem kL_law_607 : am_dec cL_law 607 [.istore_n 1] 608 = true := by decide +kernel
theorem kL_law_611 : am_dec cL_law 611 [.iload 17, .istore 11, .iload 11] 617 = true := by decide +kernel
theorem kL_law_620 : am_dec cL_law 620 [.aload 6, .iload 14] 624 = true := by decide +kernel
theorem kL_law_627 : am_dec cL_law 627 [.istore 22, .iload 22] 631 = true := by decide +kernel
theorem kL_law_634 : am_dec cL_law 634 [.aload 20, .iconst 1] 637 = true := by decide +kernel
theorem kL_law_640 : am_dec cL_law 640 [.iload 22] 642 = true := by decide +kernel
theorem kL_law_645 : am_dec cL_law 645 [.iload 22, .ineg] 648 = true := by decide +kernel
theorem kL_law_651 : am_dec cL_law 651 [.aload 6, .iload 14] 655 = true := by decide +kernel
theorem kL_law_658 : am_dec cL_law 658 [.istore 12] 660 = true := by decide +kernel
theorem kL_law_660 : am_dec cL_law 660 [.aload_n 3, .iload 14] 663 = true := by decide +kernel
theorem kL_law_666 : am_dec cL_law 666 [.iload 12] 668 = true := by decide +kernel
theorem kL_law_671 : am_dec cL_law 671 [.iconst 1] 672 = true := by decide +kernel
theorem kL_law_675 : am_dec cL_law 675 [.iconst 0] 676 = true := by decide +kernel
theorem kL_law_676 : am_dec cL_law 676 [.istore_n 1] 677 = true := by decide +kernel
theorem kL_law_680 : am_dec cL_law 680 [.iload 17] 682 = true := by decide +kernel
theorem kL_law_685 : am_dec cL_law 685 [.iload 19, .iload 18] 689 = true := by decide +kernel
theorem kL_law_692 : am_dec cL_law 692 [.iconst 1] 693 = true := by decide +kernel
theorem kL_law_696 : am_dec cL_law 696 [.iconst 0] 697 = true := by decide +kernel
theorem kL_law_697 : am_dec cL_law 697 [.istore 11, .iload 17] 701 = true := by decide +kernel
theorem kL_law_706 : am_dec cL_law 706 [.istore 12] 708 = true := by decide +kernel
theorem kL_law_708 : am_dec cL_law 708 [.iload 11] 710 = true := by decide +kernel
theorem kL_law_713 : am_dec cL_law 713 [.aload 6, .iload 14, .iload 19, .iload 15, .iload 16] 723 = true := by decide +kernel
theorem kL_law_726 : am_dec cL_law 726 [.istore 22, .iload 22] 730 = true := by decide +kernel
theorem kL_law_733 : am_dec cL_law 733 [.aload 20, .aload 20] 737 = true := by decide +kernel
theorem kL_law_740 : am_dec cL_law 740 [.iload 19, .iconst 1, .iadd, .bipush 100, .iload 15, .imul, .iload 16, .iadd] 752 = true := by decide +kernel
theorem kL_law_758 : am_dec cL_law 758 [.iload 22] 760 = true := by decide +kernel
theorem kL_law_763 : am_dec cL_law 763 [.iload 22, .ineg] 766 = true := by decide +kernel
theorem kL_law_769 : am_dec cL_law 769 [.aload 20] 771 = true := by decide +kernel
theorem kL_law_777 : am_dec cL_law 777 [.istore 12] 779 = true := by decide +kernel
theorem kL_law_779 : am_dec cL_law 779 [.aload_n 3, .iload 14, .iload 19, .iload 15, .iload 16] 788 = true := by decide +kernel
theorem kL_law_791 : am_dec cL_law 791 [.iload 12] 793 = true := by decide +kernel
theorem kL_law_796 : am_dec cL_law 796 [.iconst 1] 797 = true := by decide +kernel
theorem kL_law_800 : am_dec cL_law 800 [.iconst 0] 801 = true := by decide +kernel
theorem kL_law_801 : am_dec cL_law 801 [.istore_n 1] 802 = true := by decide +kernel
theorem kL_law_805 : am_dec cL_law 805 [.iload 17] 807 = true := by decide +kernel
theorem kL_law_810 : am_dec cL_law 810 [.iload 19, .iload 18] 814 = true := by decide +kernel
theorem kL_law_817 : am_dec cL_law 817 [.iconst 1] 818 = true := by decide +kernel
theorem kL_law_821 : am_dec cL_law 821 [.iconst 0] 822 = true := by decide +kernel
theorem kL_law_822 : am_dec cL_law 822 [.istore 11, .iload 17] 826 = true := by decide +kernel
theorem kL_law_831 : am_dec cL_law 831 [.istore 12] 833 = true := by decide +kernel
theorem kL_law_833 : am_dec cL_law 833 [.iload 11] 835 = true := by decide +kernel
theorem kL_law_838 : am_dec cL_law 838 [.aload 6, .iload 14, .iload 19] 844 = true := by decide +kernel
theorem kL_law_847 : am_dec cL_law 847 [.istore 22, .iload 22] 851 = true := by decide +kernel
theorem kL_law_854 : am_dec cL_law 854 [.aload 20, .aload 20] 858 = true := by decide +kernel
theorem kL_law_861 : am_dec cL_law 861 [.iload 19] 863 = true := by decide +kernel
theorem kL_law_869 : am_dec cL_law 869 [.iload 22] 871 = true := by decide +kernel
theorem kL_law_874 : am_dec cL_law 874 [.iload 22, .ineg] 877 = true := by decide +kernel
theorem kL_law_880 : am_dec cL_law 880 [.aload 20] 882 = true := by decide +kernel
theorem kL_law_888 : am_dec cL_law 888 [.istore 12] 890 = true := by decide +kernel
theorem kL_law_890 : am_dec cL_law 890 [.aload_n 3, .iload 14, .iload 19] 895 = true := by decide +kernel
theorem kL_law_898 : am_dec cL_law 898 [.iload 12] 900 = true := by decide +kernel
theorem kL_law_903 : am_dec cL_law 903 [.iconst 1] 904 = true := by decide +kernel
theorem kL_law_907 : am_dec cL_law 907 [.iconst 0] 908 = true := by decide +kernel
theorem kL_law_908 : am_dec cL_law 908 [.istore_n 1] 909 = true := by decide +kernel
theorem kL_law_912 : am_dec cL_law 912 [.aload 5, .iconst 3] 915 = true := by decide +kernel
theorem kL_law_921 : am_dec cL_law 921 [.iload 13, .istore 14] 925 = true := by decide +kernel
theorem kL_law_925 : am_dec cL_law 925 [.iload 14, .iload 13] 929 = true := by decide +kernel
theorem kL_law_932 : am_dec cL_law 932 [.iconst 1] 933 = true := by decide +kernel
theorem kL_law_936 : am_dec cL_law 936 [.iconst 0] 937 = true := by decide +kernel
theorem kL_law_937 : am_dec cL_law 937 [.istore 11, .iload 11] 941 = true := by decide +kernel
theorem kL_law_944 : am_dec cL_law 944 [.aload 6, .iload 14] 948 = true := by decide +kernel
theorem kL_law_951 : am_dec cL_law 951 [.aload 6, .iconst (-1)] 954 = true := by decide +kernel
theorem kL_law_957 : am_dec cL_law 957 [.istore 12] 959 = true := by decide +kernel
theorem kL_law_959 : am_dec cL_law 959 [.aload_n 3, .iload 14] 962 = true := by decide +kernel
theorem kL_law_965 : am_dec cL_law 965 [.iload 11] 967 = true := by decide +kernel
theorem kL_law_970 : am_dec cL_law 970 [.iload 12] 972 = true := by decide +kernel
theorem kL_law_980 : am_dec cL_law 980 [.iconst 1] 981 = true := by decide +kernel
theorem kL_law_984 : am_dec cL_law 984 [.iconst 0] 985 = true := by decide +kernel
theorem kL_law_985 : am_dec cL_law 985 [.istore_n 1] 986 = true := by decide +kernel
theorem kL_law_989 : am_dec cL_law 989 [.aload 5, .bipush 20] 993 = true := by decide +kernel
theorem kL_law_999 : am_dec cL_law 999 [.aload 6] 1001 = true := by decide +kernel
theorem kL_law_1004 : am_dec cL_law 1004 [.iconst 1, .iadd, .istore 15] 1008 = true := by decide +kernel
theorem kL_law_1008 : am_dec cL_law 1008 [.iload 17] 1010 = true := by decide +kernel
theorem kL_law_1013 : am_dec cL_law 1013 [.iload 15, .aload 6] 1017 = true := by decide +kernel
theorem kL_law_1023 : am_dec cL_law 1023 [.iconst 1] 1024 = true := by decide +kernel
theorem kL_law_1027 : am_dec cL_law 1027 [.iconst 0] 1028 = true := by decide +kernel
theorem kL_law_1028 : am_dec cL_law 1028 [.istore 11, .iload 17] 1032 = true := by decide +kernel
theorem kL_law_1037 : am_dec cL_law 1037 [.istore 12] 1039 = true := by decide +kernel
theorem kL_law_1039 : am_dec cL_law 1039 [.iload 11] 1041 = true := by decide +kernel
theorem kL_law_1044 : am_dec cL_law 1044 [.aload 6, .iload 14, .iload 15, .iload 16] 1052 = true := by decide +kernel
theorem kL_law_1055 : am_dec cL_law 1055 [.istore 22, .iload 22] 1059 = true := by decide +kernel
theorem kL_law_1062 : am_dec cL_law 1062 [.aload 20, .aload 20] 1066 = true := by decide +kernel
theorem kL_law_1069 : am_dec cL_law 1069 [.iload 18, .bipush 100, .iload 15, .imul, .iload 16, .iadd] 1079 = true := by decide +kernel
theorem kL_law_1085 : am_dec cL_law 1085 [.iload 22] 1087 = true := by decide +kernel
theorem kL_law_1090 : am_dec cL_law 1090 [.iload 22, .ineg] 1093 = true := by decide +kernel
theorem kL_law_1096 : am_dec cL_law 1096 [.iload 18, .iconst 1, .iadd] 1100 = true := by decide +kernel
theorem kL_law_1100 : am_dec cL_law 1100 [.istore 12] 1102 = true := by decide +kernel
theorem kL_law_1102 : am_dec cL_law 1102 [.aload_n 3, .iload 14, .iload 15, .iload 16] 1109 = true := by decide +kernel
theorem kL_law_1112 : am_dec cL_law 1112 [.iload 12] 1114 = true := by decide +kernel
theorem kL_law_1117 : am_dec cL_law 1117 [.iconst 1] 1118 = true := by decide +kernel
theorem kL_law_1121 : am_dec cL_law 1121 [.iconst 0] 1122 = true := by decide +kernel
theorem kL_law_1122 : am_dec cL_law 1122 [.istore_n 1] 1123 = true := by decide +kernel
theorem kL_law_1123 : am_dec cL_law 1123 [.iload 11] 1125 = true := by decide +kernel
theorem kL_law_1128 : am_dec cL_law 1128 [.bipush 8, .istore 21] 1132 = true := by decide +kernel
theorem kL_law_1132 : am_dec cL_law 1132 [.iload 21] 1134 = true := by decide +kernel
theorem kL_law_1137 : am_dec cL_law 1137 [.aload 7, .iload 21, .aload 7, .iload 21, .iconst 1, .isub] 1147 = true := by decide +kernel
theorem kL_law_1149 : am_dec cL_law 1149 [.iinc 21 (-1)] 1152 = true := by decide +kernel
theorem kL_law_1155 : am_dec cL_law 1155 [.aload 7, .iconst 0, .aload 10] 1160 = true := by decide +kernel
theorem kL_law_1161 : am_dec cL_law 1161 [.iinc 8 1] 1164 = true := by decide +kernel
theorem kL_law_1164 : am_dec cL_law 1164 [.iload_n 1] 1165 = true := by decide +kernel
theorem kL_law_1168 : am_dec cL_law 1168 [.aload_n 3, .aload 6] 1171 = true := by decide +kernel
theorem kL_law_1177 : am_dec cL_law 1177 [.iconst 1] 1178 = true := by decide +kernel
theorem kL_law_1181 : am_dec cL_law 1181 [.iconst 0] 1182 = true := by decide +kernel
theorem kL_law_1182 : am_dec cL_law 1182 [.istore_n 1, .iinc 9 1] 1186 = true := by decide +kernel
theorem kL_law_1189 : am_dec cL_law 1189 [.iconst 0, .istore 9] 1192 = true := by decide +kernel
theorem kL_law_1192 : am_dec cL_law 1192 [.iload 9, .bipush 8] 1196 = true := by decide +kernel
theorem kL_law_1199 : am_dec cL_law 1199 [.iload 9, .iload 8] 1203 = true := by decide +kernel
theorem kL_law_1206 : am_dec cL_law 1206 [.iload_n 1] 1207 = true := by decide +kernel
theorem kL_law_1210 : am_dec cL_law 1210 [.aload_n 3] 1211 = true := by decide +kernel
theorem kL_law_1217 : am_dec cL_law 1217 [.aload_n 3, .aload 7, .iload 9] 1222 = true := by decide +kernel
theorem kL_law_1229 : am_dec cL_law 1229 [.iconst 1] 1230 = true := by decide +kernel
theorem kL_law_1233 : am_dec cL_law 1233 [.iconst 0] 1234 = true := by decide +kernel
theorem kL_law_1234 : am_dec cL_law 1234 [.istore_n 1, .iinc 9 1] 1238 = true := by decide +kernel
theorem kL_law_1241 : am_dec cL_law 1241 [.iload_n 1] 1242 = true := by decide +kernel
theorem kL_law_1245 : am_dec cL_law 1245 [.aload_n 3, .iconst 1] 1247 = true := by decide +kernel
theorem kL_law_1255 : am_dec cL_law 1255 [.aload_n 3, .iconst 4] 1257 = true := by decide +kernel
theorem kL_law_1265 : am_dec cL_law 1265 [.aload_n 3, .iconst (-1)] 1267 = true := by decide +kernel
theorem kL_law_1275 : am_dec cL_law 1275 [.aload_n 3, .iconst (-1), .bipush 9] 1279 = true := by decide +kernel
theorem kL_law_1287 : am_dec cL_law 1287 [.aload_n 3, .bipush 6, .iconst (-1), .iconst 0] 1292 = true := by decide +kernel
theorem kL_law_1300 : am_dec cL_law 1300 [.iconst 1] 1301 = true := by decide +kernel
theorem kL_law_1304 : am_dec cL_law 1304 [.iconst 0] 1305 = true := by decide +kernel
theorem kL_law_1305 : am_dec cL_law 1305 [.istore_n 1, .iinc 2 1] 1309 = true := by decide +kernel
theorem kL_law_1312 : am_dec cL_law 1312 [.iload_n 1] 1313 = true := by decide +kernel
theorem eL_law_6 : decode cL_law 6 = .ok (.arraylength, 1) := by decide +kernel
theorem eL_law_7 : decode cL_law 7 = .ok (.if_icmp .ge 1305, 3) := by decide +kernel
theorem eL_law_12 : decode cL_law 12 = .ok (.if_icmp .ge 1300, 3) := by decide +kernel
theorem eL_law_16 : decode cL_law 16 = .ok (.ifCond .eq 1296, 3) := by decide +kernel
theorem eL_law_19 : decode cL_law 19 = .ok (.new 14, 3) := by decide +kernel
theorem eL_law_23 : decode cL_law 23 = .ok (.invokespecial 244, 3) := by decide +kernel
theorem eL_law_29 : decode cL_law 29 = .ok (.newarray .int, 2) := by decide +kernel
theorem eL_law_33 : decode cL_law 33 = .ok (.new 133, 3) := by decide +kernel
theorem eL_law_39 : decode cL_law 39 = .ok (.iaload, 1) := by decide +kernel
theorem eL_law_40 : decode cL_law 40 = .ok (.invokespecial 245, 3) := by decide +kernel
theorem eL_law_46 : decode cL_law 46 = .ok (.new 129, 3) := by decide +kernel
theorem eL_law_50 : decode cL_law 50 = .ok (.invokespecial 131, 3) := by decide +kernel
theorem eL_law_53 : decode cL_law 53 = .ok (.invokestatic 247, 3) := by decide +kernel
theorem eL_law_56 : decode cL_law 56 = .ok (.ifCond .eq 121, 3) := by decide +kernel
theorem eL_law_60 : decode cL_law 60 = .ok (.invokevirtual 251, 3) := by decide +kernel
theorem eL_law_64 : decode cL_law 64 = .ok (.if_icmp .ne 113, 3) := by decide +kernel
theorem eL_law_68 : decode cL_law 68 = .ok (.invokevirtual 254, 3) := by decide +kernel
theorem eL_law_72 : decode cL_law 72 = .ok (.if_icmp .ne 105, 3) := by decide +kernel
theorem eL_law_79 : decode cL_law 79 = .ok (.invokestatic 257, 3) := by decide +kernel
theorem eL_law_82 : decode cL_law 82 = .ok (.ldc 42, 2) := by decide +kernel
theorem eL_law_84 : decode cL_law 84 = .ok (.if_icmp .ne 93, 3) := by decide +kernel
theorem eL_law_91 : decode cL_law 91 = .ok (.invokestatic 257, 3) := by decide +kernel
theorem eL_law_94 : decode cL_law 94 = .ok (.ldc 42, 2) := by decide +kernel
theorem eL_law_96 : decode cL_law 96 = .ok (.if_icmp .ne 81, 3) := by decide +kernel
theorem eL_law_103 : decode cL_law 103 = .ok (.invokestatic 257, 3) := by decide +kernel
theorem eL_law_106 : decode cL_law 106 = .ok (.ifCond .ne 71, 3) := by decide +kernel
theorem eL_law_113 : decode cL_law 113 = .ok (.invokestatic 260, 3) := by decide +kernel
theorem eL_law_118 : decode cL_law 118 = .ok (.if_icmp .ne 59, 3) := by decide +kernel
theorem eL_law_123 : decode cL_law 123 = .ok (.invokestatic 262, 3) := by decide +kernel
theorem eL_law_128 : decode cL_law 128 = .ok (.if_icmp .ne 49, 3) := by decide +kernel
theorem eL_law_132 : decode cL_law 132 = .ok (.invokevirtual 254, 3) := by decide +kernel
theorem eL_law_136 : decode cL_law 136 = .ok (.if_icmp .ne 41, 3) := by decide +kernel
theorem eL_law_140 : decode cL_law 140 = .ok (.invokevirtual 254, 3) := by decide +kernel
theorem eL_law_144 : decode cL_law 144 = .ok (.if_icmp .ne 33, 3) := by decide +kernel
theorem eL_law_148 : decode cL_law 148 = .ok (.invokevirtual 254, 3) := by decide +kernel
theorem eL_law_151 : decode cL_law 151 = .ok (.ifCond .ne 26, 3) := by decide +kernel
theorem eL_law_158 : decode cL_law 158 = .ok (.invokestatic 260, 3) := by decide +kernel
theorem eL_law_161 : decode cL_law 161 = .ok (.ldc 58, 2) := by decide +kernel
theorem eL_law_163 : decode cL_law 163 = .ok (.if_icmp .ne 14, 3) := by decide +kernel
theorem eL_law_167 : decode cL_law 167 = .ok (.invokevirtual 264, 3) := by decide +kernel
theorem eL_law_170 : decode cL_law 170 = .ok (.ifCond .ne 7, 3) := by decide +kernel
theorem eL_law_174 : decode cL_law 174 = .ok (.goto 4, 3) := by decide +kernel
theorem eL_law_184 : decode cL_law 184 = .ok (.invokestatic 267, 3) := by decide +kernel
theorem eL_law_191 : decode cL_law 191 = .ok (.ifnonnull 5, 3) := by decide +kernel
theorem eL_law_195 : decode cL_law 195 = .ok (.ireturn, 1) := by decide +kernel
theorem eL_law_197 : decode cL_law 197 = .ok (.ifCond .eq 16, 3) := by decide +kernel
theorem eL_law_203 : decode cL_law 203 = .ok (.invokestatic 247, 3) := by decide +kernel
theorem eL_law_206 : decode cL_law 206 = .ok (.ifCond .eq 7, 3) := by decide +kernel
theorem eL_law_210 : decode cL_law 210 = .ok (.goto 4, 3) := by decide +kernel
theorem eL_law_217 : decode cL_law 217 = .ok (.anewarray 129, 3) := by decide +kernel
theorem eL_law_232 : decode cL_law 232 = .ok (.if_icmp .ge 957, 3) := by decide +kernel
theorem eL_law_236 : decode cL_law 236 = .ok (.ifCond .eq 953, 3) := by decide +kernel
theorem eL_law_241 : decode cL_law 241 = .ok (.invokevirtual 271, 3) := by decide +kernel
theorem eL_law_249 : decode cL_law 249 = .ok (.ldc 58, 2) := by decide +kernel
theorem eL_law_255 : decode cL_law 255 = .ok (.getfield 169, 3) := by decide +kernel
theorem eL_law_258 : decode cL_law 258 = .ok (.arraylength, 1) := by decide +kernel
theorem eL_law_269 : decode cL_law 269 = .ok (.invokevirtual 132, 3) := by decide +kernel
theorem eL_law_272 : decode cL_law 272 = .ok (.ifCond .eq 8, 3) := by decide +kernel
theorem eL_law_277 : decode cL_law 277 = .ok (.ifCond .ne 7, 3) := by decide +kernel
theorem eL_law_281 : decode cL_law 281 = .ok (.goto 4, 3) := by decide +kernel
theorem eL_law_286 : decode cL_law 286 = .ok (.invokevirtual 132, 3) := by decide +kernel
theorem eL_law_295 : decode cL_law 295 = .ok (.getfield 137, 3) := by decide +kernel
theorem eL_law_300 : decode cL_law 300 = .ok (.invokevirtual 132, 3) := by decide +kernel
theorem eL_law_309 : decode cL_law 309 = .ok (.getfield 141, 3) := by decide +kernel
theorem eL_law_314 : decode cL_law 314 = .ok (.invokevirtual 132, 3) := by decide +kernel
theorem eL_law_323 : decode cL_law 323 = .ok (.if_icmp .ge 7, 3) := by decide +kernel
theorem eL_law_327 : decode cL_law 327 = .ok (.goto 4, 3) := by decide +kernel
theorem eL_law_335 : decode cL_law 335 = .ok (.ifCond .eq 18, 3) := by decide +kernel
theorem eL_law_340 : decode cL_law 340 = .ok (.getfield 169, 3) := by decide +kernel
theorem eL_law_345 : decode cL_law 345 = .ok (.aaload, 1) := by decide +kernel
theorem eL_law_346 : decode cL_law 346 = .ok (.getfield 178, 3) := by decide +kernel
theorem eL_law_349 : decode cL_law 349 = .ok (.arraylength, 1) := by decide +kernel
theorem eL_law_350 : decode cL_law 350 = .ok (.goto 4, 3) := by decide +kernel
theorem eL_law_364 : decode cL_law 364 = .ok (.invokevirtual 132, 3) := by decide +kernel
theorem eL_law_367 : decode cL_law 367 = .ok (.ifCond .eq 8, 3) := by decide +kernel
theorem eL_law_372 : decode cL_law 372 = .ok (.ifCond .ne 7, 3) := by decide +kernel
theorem eL_law_376 : decode cL_law 376 = .ok (.goto 4, 3) := by decide +kernel
theorem eL_law_381 : decode cL_law 381 = .ok (.invokevirtual 132, 3) := by decide +kernel
theorem eL_law_388 : decode cL_law 388 = .ok (.ifCond .eq 14, 3) := by decide +kernel
theorem eL_law_393 : decode cL_law 393 = .ok (.getfield 169, 3) := by decide +kernel
theorem eL_law_398 : decode cL_law 398 = .ok (.aaload, 1) := by decide +kernel
theorem eL_law_399 : decode cL_law 399 = .ok (.goto 4, 3) := by decide +kernel
theorem eL_law_402 : decode cL_law 402 = .ok (.aconst_null, 1) := by decide +kernel
theorem eL_law_409 : decode cL_law 409 = .ok (.invokevirtual 132, 3) := by decide +kernel
theorem eL_law_412 : decode cL_law 412 = .ok (.tableswitch 577 0 5 #[40, 40, 199, 268, 393, 500], 40) := by decide +kernel
theorem eL_law_458 : decode cL_law 458 = .ok (.invokevirtual 132, 3) := by decide +kernel
theorem eL_law_461 : decode cL_law 461 = .ok (.ifCond .ne 7, 3) := by decide +kernel
theorem eL_law_465 : decode cL_law 465 = .ok (.goto 4, 3) := by decide +kernel
theorem eL_law_469 : decode cL_law 469 = .ok (.invokevirtual 132, 3) := by decide +kernel
theorem eL_law_477 : decode cL_law 477 = .ok (.if_icmp .ge 14, 3) := by decide +kernel
theorem eL_law_484 : decode cL_law 484 = .ok (.if_icmp .ge 7, 3) := by decide +kernel
theorem eL_law_488 : decode cL_law 488 = .ok (.goto 4, 3) := by decide +kernel
theorem eL_law_497 : decode cL_law 497 = .ok (.if_icmp .le 8, 3) := by decide +kernel
theorem eL_law_500 : decode cL_law 500 = .ok (.ldc 42, 2) := by decide +kernel
theorem eL_law_502 : decode cL_law 502 = .ok (.goto 5, 3) := by decide +kernel
theorem eL_law_505 : decode cL_law 505 = .ok (.ldc 71, 2) := by decide +kernel
theorem eL_law_511 : decode cL_law 511 = .ok (.ifCond .eq 76, 3) := by decide +kernel
theorem eL_law_520 : decode cL_law 520 = .ok (.invokevirtual 152, 3) := by decide +kernel
theorem eL_law_523 : decode cL_law 523 = .ok (.ifCond .ne 31, 3) := by decide +kernel
theorem eL_law_532 : decode cL_law 532 = .ok (.invokevirtual 163, 3) := by decide +kernel
theorem eL_law_535 : decode cL_law 535 = .ok (.ifCond .ne 19, 3) := by decide +kernel
theorem eL_law_544 : decode cL_law 544 = .ok (.invokevirtual 166, 3) := by decide +kernel
theorem eL_law_547 : decode cL_law 547 = .ok (.ifCond .ne 7, 3) := by decide +kernel
theorem eL_law_551 : decode cL_law 551 = .ok (.goto 4, 3) := by decide +kernel
theorem eL_law_559 : decode cL_law 559 = .ok (.ifCond .eq 8, 3) := by decide +kernel
theorem eL_law_564 : decode cL_law 564 = .ok (.goto 5, 3) := by decide +kernel
theorem eL_law_573 : decode cL_law 573 = .ok (.ifCond .eq 14, 3) := by decide +kernel
theorem eL_law_584 : decode cL_law 584 = .ok (.invokevirtual 173, 3) := by decide +kernel
theorem eL_law_594 : decode cL_law 594 = .ok (.invokestatic 257, 3) := by decide +kernel
theorem eL_law_599 : decode cL_law 599 = .ok (.if_icmp .ne 7, 3) := by decide +kernel
theorem eL_law_603 : decode cL_law 603 = .ok (.goto 4, 3) := by decide +kernel
theorem eL_law_608 : decode cL_law 608 = .ok (.goto 515, 3) := by decide +kernel
theorem eL_law_617 : decode cL_law 617 = .ok (.ifCond .eq 43, 3) := by decide +kernel
theorem eL_law_624 : decode cL_law 624 = .ok (.invokevirtual 186, 3) := by decide +kernel
theorem eL_law_631 : decode cL_law 631 = .ok (.ifCond .ne 9, 3) := by decide +kernel
theorem eL_law_637 : decode cL_law 637 = .ok (.putfield 190, 3) := by decide +kernel
theorem eL_law_642 : decode cL_law 642 = .ok (.ifCond .le 9, 3) := by decide +kernel
theorem eL_law_648 : decode cL_law 648 = .ok (.goto 10, 3) := by decide +kernel
theorem eL_law_655 : decode cL_law 655 = .ok (.invokevirtual 224, 3) := by decide +kernel
theorem eL_law_663 : decode cL_law 663 = .ok (.invokestatic 262, 3) := by decide +kernel
theorem eL_law_668 : decode cL_law 668 = .ok (.if_icmp .ne 7, 3) := by decide +kernel
theorem eL_law_672 : decode cL_law 672 = .ok (.goto 4, 3) := by decide +kernel
theorem eL_law_677 : decode cL_law 677 = .ok (.goto 446, 3) := by decide +kernel
theorem eL_law_682 : decode cL_law 682 = .ok (.ifCond .eq 14, 3) := by decide +kernel
theorem eL_law_689 : decode cL_law 689 = .ok (.if_icmp .ge 7, 3) := by decide +kernel
theorem eL_law_693 : decode cL_law 693 = .ok (.goto 4, 3) := by decide +kernel
theorem eL_law_701 : decode cL_law 701 = .ok (.ifCond .eq 7, 3) := by decide +kernel
theorem eL_law_704 : decode cL_law 704 = .ok (.ldc 52, 2) := by decide +kernel
theorem eL_law_710 : decode cL_law 710 = .ok (.ifCond .eq 69, 3) := by decide +kernel
theorem eL_law_723 : decode cL_law 723 = .ok (.invokevirtual 275, 3) := by decide +kernel
theorem eL_law_730 : decode cL_law 730 = .ok (.ifCond .ne 28, 3) := by decide +kernel
theorem eL_law_737 : decode cL_law 737 = .ok (.getfield 178, 3) := by decide +kernel
theorem eL_law_752 : decode cL_law 752 = .ok (.invokestatic 183, 3) := by decide +kernel
theorem eL_law_755 : decode cL_law 755 = .ok (.putfield 178, 3) := by decide +kernel
theorem eL_law_760 : decode cL_law 760 = .ok (.ifCond .le 9, 3) := by decide +kernel
theorem eL_law_766 : decode cL_law 766 = .ok (.goto 11, 3) := by decide +kernel
theorem eL_law_771 : decode cL_law 771 = .ok (.invokevirtual 276, 3) := by decide +kernel
theorem eL_law_774 : decode cL_law 774 = .ok (.invokestatic 112, 3) := by decide +kernel
theorem eL_law_788 : decode cL_law 788 = .ok (.invokestatic 279, 3) := by decide +kernel
theorem eL_law_793 : decode cL_law 793 = .ok (.if_icmp .ne 7, 3) := by decide +kernel
theorem eL_law_797 : decode cL_law 797 = .ok (.goto 4, 3) := by decide +kernel
theorem eL_law_802 : decode cL_law 802 = .ok (.goto 321, 3) := by decide +kernel
theorem eL_law_807 : decode cL_law 807 = .ok (.ifCond .eq 14, 3) := by decide +kernel
theorem eL_law_814 : decode cL_law 814 = .ok (.if_icmp .ge 7, 3) := by decide +kernel
theorem eL_law_818 : decode cL_law 818 = .ok (.goto 4, 3) := by decide +kernel
theorem eL_law_826 : decode cL_law 826 = .ok (.ifCond .eq 7, 3) := by decide +kernel
theorem eL_law_829 : decode cL_law 829 = .ok (.ldc 52, 2) := by decide +kernel
theorem eL_law_835 : decode cL_law 835 = .ok (.ifCond .eq 55, 3) := by decide +kernel
theorem eL_law_844 : decode cL_law 844 = .ok (.invokevirtual 282, 3) := by decide +kernel
theorem eL_law_851 : decode cL_law 851 = .ok (.ifCond .ne 18, 3) := by decide +kernel
theorem eL_law_858 : decode cL_law 858 = .ok (.getfield 178, 3) := by decide +kernel
theorem eL_law_863 : decode cL_law 863 = .ok (.invokestatic 283, 3) := by decide +kernel
theorem eL_law_866 : decode cL_law 866 = .ok (.putfield 178, 3) := by decide +kernel
theorem eL_law_871 : decode cL_law 871 = .ok (.ifCond .le 9, 3) := by decide +kernel
theorem eL_law_877 : decode cL_law 877 = .ok (.goto 11, 3) := by decide +kernel
theorem eL_law_882 : decode cL_law 882 = .ok (.invokevirtual 276, 3) := by decide +kernel
theorem eL_law_885 : decode cL_law 885 = .ok (.invokestatic 112, 3) := by decide +kernel
theorem eL_law_895 : decode cL_law 895 = .ok (.invokestatic 287, 3) := by decide +kernel
theorem eL_law_900 : decode cL_law 900 = .ok (.if_icmp .ne 7, 3) := by decide +kernel
theorem eL_law_904 : decode cL_law 904 = .ok (.goto 4, 3) := by decide +kernel
theorem eL_law_909 : decode cL_law 909 = .ok (.goto 214, 3) := by decide +kernel
theorem eL_law_915 : decode cL_law 915 = .ok (.invokevirtual 132, 3) := by decide +kernel
theorem eL_law_918 : decode cL_law 918 = .ok (.ifCond .le 7, 3) := by decide +kernel
theorem eL_law_929 : decode cL_law 929 = .ok (.if_icmp .ge 7, 3) := by decide +kernel
theorem eL_law_933 : decode cL_law 933 = .ok (.goto 4, 3) := by decide +kernel
theorem eL_law_941 : decode cL_law 941 = .ok (.ifCond .eq 18, 3) := by decide +kernel
theorem eL_law_948 : decode cL_law 948 = .ok (.invokevirtual 187, 3) := by decide +kernel
theorem eL_law_954 : decode cL_law 954 = .ok (.invokevirtual 224, 3) := by decide +kernel
theorem eL_law_962 : decode cL_law 962 = .ok (.invokestatic 289, 3) := by decide +kernel
theorem eL_law_967 : decode cL_law 967 = .ok (.ifCond .eq 8, 3) := by decide +kernel
theorem eL_law_972 : decode cL_law 972 = .ok (.goto 5, 3) := by decide +kernel
theorem eL_law_975 : decode cL_law 975 = .ok (.ldc 58, 2) := by decide +kernel
theorem eL_law_977 : decode cL_law 977 = .ok (.if_icmp .ne 7, 3) := by decide +kernel
theorem eL_law_981 : decode cL_law 981 = .ok (.goto 4, 3) := by decide +kernel
theorem eL_law_986 : decode cL_law 986 = .ok (.goto 137, 3) := by decide +kernel
theorem eL_law_993 : decode cL_law 993 = .ok (.invokevirtual 132, 3) := by decide +kernel
theorem eL_law_996 : decode cL_law 996 = .ok (.ifCond .ne 12, 3) := by decide +kernel
theorem eL_law_1001 : decode cL_law 1001 = .ok (.getfield 137, 3) := by decide +kernel
theorem eL_law_1010 : decode cL_law 1010 = .ok (.ifCond .eq 17, 3) := by decide +kernel
theorem eL_law_1017 : decode cL_law 1017 = .ok (.getfield 137, 3) := by decide +kernel
theorem eL_law_1020 : decode cL_law 1020 = .ok (.if_icmp .gt 7, 3) := by decide +kernel
theorem eL_law_1024 : decode cL_law 1024 = .ok (.goto 4, 3) := by decide +kernel
theorem eL_law_1032 : decode cL_law 1032 = .ok (.ifCond .eq 7, 3) := by decide +kernel
theorem eL_law_1035 : decode cL_law 1035 = .ok (.ldc 42, 2) := by decide +kernel
theorem eL_law_1041 : decode cL_law 1041 = .ok (.ifCond .eq 61, 3) := by decide +kernel
theorem eL_law_1052 : decode cL_law 1052 = .ok (.invokevirtual 177, 3) := by decide +kernel
theorem eL_law_1059 : decode cL_law 1059 = .ok (.ifCond .ne 26, 3) := by decide +kernel
theorem eL_law_1066 : decode cL_law 1066 = .ok (.getfield 178, 3) := by decide +kernel
theorem eL_law_1079 : decode cL_law 1079 = .ok (.invokestatic 183, 3) := by decide +kernel
theorem eL_law_1082 : decode cL_law 1082 = .ok (.putfield 178, 3) := by decide +kernel
theorem eL_law_1087 : decode cL_law 1087 = .ok (.ifCond .le 9, 3) := by decide +kernel
theorem eL_law_1093 : decode cL_law 1093 = .ok (.goto 7, 3) := by decide +kernel
theorem eL_law_1109 : decode cL_law 1109 = .ok (.invokestatic 260, 3) := by decide +kernel
theorem eL_law_1114 : decode cL_law 1114 = .ok (.if_icmp .ne 7, 3) := by decide +kernel
theorem eL_law_1118 : decode cL_law 1118 = .ok (.goto 4, 3) := by decide +kernel
theorem eL_law_1125 : decode cL_law 1125 = .ok (.ifCond .eq 39, 3) := by decide +kernel
theorem eL_law_1134 : decode cL_law 1134 = .ok (.ifCond .le 21, 3) := by decide +kernel
theorem eL_law_1147 : decode cL_law 1147 = .ok (.aaload, 1) := by decide +kernel
theorem eL_law_1148 : decode cL_law 1148 = .ok (.aastore, 1) := by decide +kernel
theorem eL_law_1152 : decode cL_law 1152 = .ok (.goto (-20), 3) := by decide +kernel
theorem eL_law_1160 : decode cL_law 1160 = .ok (.aastore, 1) := by decide +kernel
theorem eL_law_1165 : decode cL_law 1165 = .ok (.ifCond .eq 16, 3) := by decide +kernel
theorem eL_law_1171 : decode cL_law 1171 = .ok (.invokestatic 247, 3) := by decide +kernel
theorem eL_law_1174 : decode cL_law 1174 = .ok (.ifCond .eq 7, 3) := by decide +kernel
theorem eL_law_1178 : decode cL_law 1178 = .ok (.goto 4, 3) := by decide +kernel
theorem eL_law_1186 : decode cL_law 1186 = .ok (.goto (-958), 3) := by decide +kernel
theorem eL_law_1196 : decode cL_law 1196 = .ok (.if_icmp .ge 45, 3) := by decide +kernel
theorem eL_law_1203 : decode cL_law 1203 = .ok (.if_icmp .ge 38, 3) := by decide +kernel
theorem eL_law_1207 : decode cL_law 1207 = .ok (.ifCond .eq 34, 3) := by decide +kernel
theorem eL_law_1211 : decode cL_law 1211 = .ok (.invokevirtual 254, 3) := by decide +kernel
theorem eL_law_1214 : decode cL_law 1214 = .ok (.ifCond .lt 19, 3) := by decide +kernel
theorem eL_law_1222 : decode cL_law 1222 = .ok (.aaload, 1) := by decide +kernel
theorem eL_law_1223 : decode cL_law 1223 = .ok (.invokestatic 247, 3) := by decide +kernel
theorem eL_law_1226 : decode cL_law 1226 = .ok (.ifCond .eq 7, 3) := by decide +kernel
theorem eL_law_1230 : decode cL_law 1230 = .ok (.goto 4, 3) := by decide +kernel
theorem eL_law_1238 : decode cL_law 1238 = .ok (.goto (-46), 3) := by decide +kernel
theorem eL_law_1242 : decode cL_law 1242 = .ok (.ifCond .eq 62, 3) := by decide +kernel
theorem eL_law_1247 : decode cL_law 1247 = .ok (.invokestatic 19, 3) := by decide +kernel
theorem eL_law_1250 : decode cL_law 1250 = .ok (.ldc 42, 2) := by decide +kernel
theorem eL_law_1252 : decode cL_law 1252 = .ok (.if_icmp .ne 52, 3) := by decide +kernel
theorem eL_law_1257 : decode cL_law 1257 = .ok (.invokestatic 291, 3) := by decide +kernel
theorem eL_law_1260 : decode cL_law 1260 = .ok (.ldc 42, 2) := by decide +kernel
theorem eL_law_1262 : decode cL_law 1262 = .ok (.if_icmp .ne 42, 3) := by decide +kernel
theorem eL_law_1267 : decode cL_law 1267 = .ok (.invokestatic 293, 3) := by decide +kernel
theorem eL_law_1270 : decode cL_law 1270 = .ok (.ldc 58, 2) := by decide +kernel
theorem eL_law_1272 : decode cL_law 1272 = .ok (.if_icmp .ne 32, 3) := by decide +kernel
theorem eL_law_1279 : decode cL_law 1279 = .ok (.invokestatic 239, 3) := by decide +kernel
theorem eL_law_1282 : decode cL_law 1282 = .ok (.ldc 52, 2) := by decide +kernel
theorem eL_law_1284 : decode cL_law 1284 = .ok (.if_icmp .ne 20, 3) := by decide +kernel
theorem eL_law_1292 : decode cL_law 1292 = .ok (.invokestatic 295, 3) := by decide +kernel
theorem eL_law_1295 : decode cL_law 1295 = .ok (.ldc 58, 2) := by decide +kernel
theorem eL_law_1297 : decode cL_law 1297 = .ok (.if_icmp .ne 7, 3) := by decide +kernel
theorem eL_law_1301 : decode cL_law 1301 = .ok (.goto 4, 3) := by decide +kernel
theorem eL_law_1309 : decode cL_law 1309 = .ok (.goto (-1305), 3) := by decide +kernel
theorem eL_law_1313 : decode cL_law 1313 = .ok (.ireturn, 1) := by decide +kernel
