/-! What the bytes are (by program). -/
theorem kX9_init_0 : am_dec cX9_init 0 [.aload_n 0] 1 = true := by decide +kernel
theorem kX9_init_4 : am_dec cX9_init 4 [.aload_n 0, .sipush 800] 8 = true := by decide +kernel
theorem kX9_init_13 : am_dec cX9_init 13 [.aload_n 0, .iconst (-1)] 15 = true := by decide +kernel
theorem kX9_init_18 : am_dec cX9_init 18 [.aload_n 0, .sipush 1528] 22 = true := by decide +kernel
theorem kX9_init_27 : am_dec cX9_init 27 [.aload_n 0, .sipush 1528] 31 = true := by decide +kernel
theorem kX9_init_36 : am_dec cX9_init 36 [.aload_n 0, .bipush 8, .sipush 1528] 42 = true := by decide +kernel
theorem kX9_init_49 : am_dec cX9_init 49 [.aload_n 0, .sipush 1300] 53 = true := by decide +kernel
theorem kX9_init_58 : am_dec cX9_init 58 [.aload_n 0] 59 = true := by decide +kernel
theorem kX9_init_62 : am_dec cX9_init 62 [.iconst 0, .iconst 2] 64 = true := by decide +kernel
theorem kX9_init_65 : am_dec cX9_init 65 [.aload_n 0] 66 = true := by decide +kernel
theorem kX9_init_69 : am_dec cX9_init 69 [.iconst 1, .iconst 2] 71 = true := by decide +kernel
theorem eX9_init_1 : decode cX9_init 1 = .ok (.invokespecial 3, 3) := by decide +kernel
theorem eX9_init_8 : decode cX9_init 8 = .ok (.newarray .int, 2) := by decide +kernel
theorem eX9_init_10 : decode cX9_init 10 = .ok (.putfield 9, 3) := by decide +kernel
theorem eX9_init_15 : decode cX9_init 15 = .ok (.putfield 13, 3) := by decide +kernel
theorem eX9_init_22 : decode cX9_init 22 = .ok (.newarray .int, 2) := by decide +kernel
theorem eX9_init_24 : decode cX9_init 24 = .ok (.putfield 17, 3) := by decide +kernel
theorem eX9_init_31 : decode cX9_init 31 = .ok (.newarray .int, 2) := by decide +kernel
theorem eX9_init_33 : decode cX9_init 33 = .ok (.putfield 20, 3) := by decide +kernel
theorem eX9_init_42 : decode cX9_init 42 = .ok (.multianewarray 23 2, 4) := by decide +kernel
theorem eX9_init_46 : decode cX9_init 46 = .ok (.putfield 25, 3) := by decide +kernel
theorem eX9_init_53 : decode cX9_init 53 = .ok (.newarray .long, 2) := by decide +kernel
theorem eX9_init_55 : decode cX9_init 55 = .ok (.putfield 28, 3) := by decide +kernel
theorem eX9_init_59 : decode cX9_init 59 = .ok (.getfield 17, 3) := by decide +kernel
theorem eX9_init_64 : decode cX9_init 64 = .ok (.iastore, 1) := by decide +kernel
theorem eX9_init_66 : decode cX9_init 66 = .ok (.getfield 17, 3) := by decide +kernel
theorem eX9_init_71 : decode cX9_init 71 = .ok (.iastore, 1) := by decide +kernel
theorem eX9_init_72 : decode cX9_init 72 = .ok (.return_, 1) := by decide +kernel
theorem kX9_thrown_0 : am_dec cX9_thrown 0 [.aload_n 0] 1 = true := by decide +kernel
theorem eX9_thrown_1 : decode cX9_thrown 1 = .ok (.getfield 32, 3) := by decide +kernel
theorem eX9_thrown_4 : decode cX9_thrown 4 = .ok (.ireturn, 1) := by decide +kernel
theorem kX9_fails_0 : am_dec cX9_fails 0 [.iload_n 1] 1 = true := by decide +kernel
theorem kX9_fails_4 : am_dec cX9_fails 4 [.aload_n 0] 5 = true := by decide +kernel
theorem kX9_fails_11 : am_dec cX9_fails 11 [.aload_n 0, .iload_n 2] 13 = true := by decide +kernel
theorem kX9_fails_16 : am_dec cX9_fails 16 [.aload_n 0] 17 = true := by decide +kernel
theorem kX9_fails_23 : am_dec cX9_fails 23 [.iconst 1] 24 = true := by decide +kernel
theorem kX9_fails_27 : am_dec cX9_fails 27 [.iconst 0] 28 = true := by decide +kernel
theorem eX9_fails_1 : decode cX9_fails 1 = .ok (.ifCond .eq 15, 3) := by decide +kernel
theorem eX9_fails_5 : decode cX9_fails 5 = .ok (.getfield 32, 3) := by decide +kernel
theorem eX9_fails_8 : decode cX9_fails 8 = .ok (.ifCond .ne 8, 3) := by decide +kernel
theorem eX9_fails_13 : decode cX9_fails 13 = .ok (.putfield 32, 3) := by decide +kernel
theorem eX9_fails_17 : decode cX9_fails 17 = .ok (.getfield 32, 3) := by decide +kernel
theorem eX9_fails_20 : decode cX9_fails 20 = .ok (.ifCond .eq 7, 3) := by decide +kernel
theorem eX9_fails_24 : decode cX9_fails 24 = .ok (.goto 4, 3) := by decide +kernel
theorem eX9_fails_28 : decode cX9_fails 28 = .ok (.ireturn, 1) := by decide +kernel
theorem kX9_in_0 : am_dec cX9_in 0 [.iload_n 0, .iload_n 1] 2 = true := by decide +kernel
theorem kX9_in_5 : am_dec cX9_in 5 [.iload_n 0, .iload_n 2] 7 = true := by decide +kernel
theorem kX9_in_10 : am_dec cX9_in 10 [.iconst 1] 11 = true := by decide +kernel
theorem kX9_in_14 : am_dec cX9_in 14 [.iconst 0] 15 = true := by decide +kernel
theorem eX9_in_2 : decode cX9_in 2 = .ok (.if_icmp .lt 12, 3) := by decide +kernel
theorem eX9_in_7 : decode cX9_in 7 = .ok (.if_icmp .gt 7, 3) := by decide +kernel
theorem eX9_in_11 : decode cX9_in 11 = .ok (.goto 4, 3) := by decide +kernel
theorem eX9_in_15 : decode cX9_in 15 = .ok (.ireturn, 1) := by decide +kernel
theorem kX9_min_0 : am_dec cX9_min 0 [.iload_n 0, .iload_n 1] 2 = true := by decide +kernel
theorem kX9_min_5 : am_dec cX9_min 5 [.iload_n 0] 6 = true := by decide +kernel
theorem kX9_min_9 : am_dec cX9_min 9 [.iload_n 1] 10 = true := by decide +kernel
theorem eX9_min_2 : decode cX9_min 2 = .ok (.if_icmp .ge 7, 3) := by decide +kernel
theorem eX9_min_6 : decode cX9_min 6 = .ok (.goto 4, 3) := by decide +kernel
theorem eX9_min_10 : decode cX9_min 10 = .ok (.ireturn, 1) := by decide +kernel
theorem kX9_max_0 : am_dec cX9_max 0 [.iload_n 0, .iload_n 1] 2 = true := by decide +kernel
theorem kX9_max_5 : am_dec cX9_max 5 [.iload_n 0] 6 = true := by decide +kernel
theorem kX9_max_9 : am_dec cX9_max 9 [.iload_n 1] 10 = true := by decide +kernel
theorem eX9_max_2 : decode cX9_max 2 = .ok (.if_icmp .le 7, 3) := by decide +kernel
theorem eX9_max_6 : decode cX9_max 6 = .ok (.goto 4, 3) := by decide +kernel
theorem eX9_max_10 : decode cX9_max 10 = .ok (.ireturn, 1) := by decide +kernel
theorem kX9_copy_0 : am_dec cX9_copy 0 [.iconst 0, .istore_n 2] 2 = true := by decide +kernel
theorem kX9_copy_2 : am_dec cX9_copy 2 [.iload_n 2, .sipush 1528] 6 = true := by decide +kernel
theorem kX9_copy_9 : am_dec cX9_copy 9 [.aload_n 1, .iload_n 2, .aload_n 0, .iload_n 2] 13 = true := by decide +kernel
theorem kX9_copy_15 : am_dec cX9_copy 15 [.iinc 2 1] 18 = true := by decide +kernel
theorem eX9_copy_6 : decode cX9_copy 6 = .ok (.if_icmp .ge 15, 3) := by decide +kernel
theorem eX9_copy_13 : decode cX9_copy 13 = .ok (.iaload, 1) := by decide +kernel
theorem eX9_copy_14 : decode cX9_copy 14 = .ok (.iastore, 1) := by decide +kernel
theorem eX9_copy_18 : decode cX9_copy 18 = .ok (.goto (-16), 3) := by decide +kernel
theorem eX9_copy_21 : decode cX9_copy 21 = .ok (.return_, 1) := by decide +kernel
theorem kX9_at_0 : am_dec cX9_at 0 [.bipush 66, .bipush 27, .iload_n 0, .imul, .iadd] 7 = true := by decide +kernel
theorem eX9_at_7 : decode cX9_at 7 = .ok (.ireturn, 1) := by decide +kernel
theorem kX9_countOf_0 : am_dec cX9_countOf 0 [.aload_n 0] 1 = true := by decide +kernel
theorem kX9_countOf_4 : am_dec cX9_countOf 4 [.iload_n 1] 5 = true := by decide +kernel
theorem kX9_countOf_8 : am_dec cX9_countOf 8 [.iconst 1, .iadd] 10 = true := by decide +kernel
theorem eX9_countOf_1 : decode cX9_countOf 1 = .ok (.getfield 17, 3) := by decide +kernel
theorem eX9_countOf_5 : decode cX9_countOf 5 = .ok (.invokestatic 35, 3) := by decide +kernel
theorem eX9_countOf_10 : decode cX9_countOf 10 = .ok (.iaload, 1) := by decide +kernel
theorem eX9_countOf_11 : decode cX9_countOf 11 = .ok (.ireturn, 1) := by decide +kernel
theorem kX9_isClosed_0 : am_dec cX9_isClosed 0 [.aload_n 0] 1 = true := by decide +kernel
theorem kX9_isClosed_4 : am_dec cX9_isClosed 4 [.iload_n 1] 5 = true := by decide +kernel
theorem kX9_isClosed_8 : am_dec cX9_isClosed 8 [.iconst 2, .iadd] 10 = true := by decide +kernel
theorem kX9_isClosed_11 : am_dec cX9_isClosed 11 [.iconst 1] 12 = true := by decide +kernel
theorem kX9_isClosed_15 : am_dec cX9_isClosed 15 [.iconst 1] 16 = true := by decide +kernel
theorem kX9_isClosed_19 : am_dec cX9_isClosed 19 [.iconst 0] 20 = true := by decide +kernel
theorem eX9_isClosed_1 : decode cX9_isClosed 1 = .ok (.getfield 17, 3) := by decide +kernel
theorem eX9_isClosed_5 : decode cX9_isClosed 5 = .ok (.invokestatic 35, 3) := by decide +kernel
theorem eX9_isClosed_10 : decode cX9_isClosed 10 = .ok (.iaload, 1) := by decide +kernel
theorem eX9_isClosed_12 : decode cX9_isClosed 12 = .ok (.if_icmp .ne 7, 3) := by decide +kernel
theorem eX9_isClosed_16 : decode cX9_isClosed 16 = .ok (.goto 4, 3) := by decide +kernel
theorem eX9_isClosed_20 : decode cX9_isClosed 20 = .ok (.ireturn, 1) := by decide +kernel
theorem kX9_xOf_0 : am_dec cX9_xOf 0 [.aload_n 0] 1 = true := by decide +kernel
theorem kX9_xOf_4 : am_dec cX9_xOf 4 [.iload_n 1] 5 = true := by decide +kernel
theorem kX9_xOf_8 : am_dec cX9_xOf 8 [.iconst 3, .iadd, .iconst 2, .iload_n 2, .imul, .iadd] 14 = true := by decide +kernel
theorem eX9_xOf_1 : decode cX9_xOf 1 = .ok (.getfield 17, 3) := by decide +kernel
theorem eX9_xOf_5 : decode cX9_xOf 5 = .ok (.invokestatic 35, 3) := by decide +kernel
theorem eX9_xOf_14 : decode cX9_xOf 14 = .ok (.iaload, 1) := by decide +kernel
theorem eX9_xOf_15 : decode cX9_xOf 15 = .ok (.ireturn, 1) := by decide +kernel
theorem kX9_yOf_0 : am_dec cX9_yOf 0 [.aload_n 0] 1 = true := by decide +kernel
theorem kX9_yOf_4 : am_dec cX9_yOf 4 [.iload_n 1] 5 = true := by decide +kernel
theorem kX9_yOf_8 : am_dec cX9_yOf 8 [.iconst 3, .iadd, .iconst 2, .iload_n 2, .imul, .iadd, .iconst 1, .iadd] 16 = true := by decide +kernel
theorem eX9_yOf_1 : decode cX9_yOf 1 = .ok (.getfield 17, 3) := by decide +kernel
theorem eX9_yOf_5 : decode cX9_yOf 5 = .ok (.invokestatic 35, 3) := by decide +kernel
theorem eX9_yOf_16 : decode cX9_yOf 16 = .ok (.iaload, 1) := by decide +kernel
theorem eX9_yOf_17 : decode cX9_yOf 17 = .ok (.ireturn, 1) := by decide +kernel
theorem kX9_behind_0 : am_dec cX9_behind 0 [.iload_n 2, .iconst 1, .iadd, .aload_n 0, .iload_n 1] 5 = true := by decide +kernel
theorem kX9_behind_11 : am_dec cX9_behind 11 [.iconst 0] 12 = true := by decide +kernel
theorem kX9_behind_15 : am_dec cX9_behind 15 [.iload_n 2, .iconst 1, .iadd] 18 = true := by decide +kernel
theorem eX9_behind_5 : decode cX9_behind 5 = .ok (.invokevirtual 39, 3) := by decide +kernel
theorem eX9_behind_8 : decode cX9_behind 8 = .ok (.if_icmp .ne 7, 3) := by decide +kernel
theorem eX9_behind_12 : decode cX9_behind 12 = .ok (.goto 6, 3) := by decide +kernel
theorem eX9_behind_18 : decode cX9_behind 18 = .ok (.ireturn, 1) := by decide +kernel
theorem kX9_ahead_0 : am_dec cX9_ahead 0 [.iload_n 2] 1 = true := by decide +kernel
theorem kX9_ahead_4 : am_dec cX9_ahead 4 [.aload_n 0, .iload_n 1] 6 = true := by decide +kernel
theorem kX9_ahead_9 : am_dec cX9_ahead 9 [.iconst 1, .isub] 11 = true := by decide +kernel
theorem kX9_ahead_14 : am_dec cX9_ahead 14 [.iload_n 2, .iconst 1, .isub] 17 = true := by decide +kernel
theorem eX9_ahead_1 : decode cX9_ahead 1 = .ok (.ifCond .ne 13, 3) := by decide +kernel
theorem eX9_ahead_6 : decode cX9_ahead 6 = .ok (.invokevirtual 39, 3) := by decide +kernel
theorem eX9_ahead_11 : decode cX9_ahead 11 = .ok (.goto 6, 3) := by decide +kernel
theorem eX9_ahead_17 : decode cX9_ahead 17 = .ok (.ireturn, 1) := by decide +kernel
theorem kX9_sidesOf_0 : am_dec cX9_sidesOf 0 [.aload_n 0, .iload_n 1] 2 = true := by decide +kernel
theorem kX9_sidesOf_8 : am_dec cX9_sidesOf 8 [.aload_n 0, .iload_n 1] 10 = true := by decide +kernel
theorem kX9_sidesOf_16 : am_dec cX9_sidesOf 16 [.aload_n 0, .iload_n 1] 18 = true := by decide +kernel
theorem kX9_sidesOf_21 : am_dec cX9_sidesOf 21 [.iconst 1, .isub] 23 = true := by decide +kernel
theorem eX9_sidesOf_2 : decode cX9_sidesOf 2 = .ok (.invokevirtual 42, 3) := by decide +kernel
theorem eX9_sidesOf_5 : decode cX9_sidesOf 5 = .ok (.ifCond .eq 11, 3) := by decide +kernel
theorem eX9_sidesOf_10 : decode cX9_sidesOf 10 = .ok (.invokevirtual 39, 3) := by decide +kernel
theorem eX9_sidesOf_13 : decode cX9_sidesOf 13 = .ok (.goto 10, 3) := by decide +kernel
theorem eX9_sidesOf_18 : decode cX9_sidesOf 18 = .ok (.invokevirtual 39, 3) := by decide +kernel
theorem eX9_sidesOf_23 : decode cX9_sidesOf 23 = .ok (.ireturn, 1) := by decide +kernel
theorem kX9_turn_0 : am_dec cX9_turn 0 [.iload_n 2, .iload_n 0, .isub, .iload 5, .iload_n 1, .isub, .imul, .iload_n 3, .iload_n 1, .isub, .iload 4, .iload_n 0, .isub, .imul, .isub] 17 = true := by decide +kernel
theorem eX9_turn_17 : decode cX9_turn 17 = .ok (.ireturn, 1) := by decide +kernel
theorem kX9_isOn_0 : am_dec cX9_isOn 0 [.iload_n 0, .iload_n 1, .iload_n 2, .iload_n 3, .iload 4, .iload 5] 8 = true := by decide +kernel
theorem kX9_isOn_14 : am_dec cX9_isOn 14 [.iload 4, .iload_n 0, .iload_n 2] 18 = true := by decide +kernel
theorem kX9_isOn_21 : am_dec cX9_isOn 21 [.iload_n 0, .iload_n 2] 23 = true := by decide +kernel
theorem kX9_isOn_32 : am_dec cX9_isOn 32 [.iload 5, .iload_n 1, .iload_n 3] 36 = true := by decide +kernel
theorem kX9_isOn_39 : am_dec cX9_isOn 39 [.iload_n 1, .iload_n 3] 41 = true := by decide +kernel
theorem kX9_isOn_50 : am_dec cX9_isOn 50 [.iconst 1] 51 = true := by decide +kernel
theorem kX9_isOn_54 : am_dec cX9_isOn 54 [.iconst 0] 55 = true := by decide +kernel
theorem eX9_isOn_8 : decode cX9_isOn 8 = .ok (.invokestatic 46, 3) := by decide +kernel
theorem eX9_isOn_11 : decode cX9_isOn 11 = .ok (.ifCond .ne 43, 3) := by decide +kernel
theorem eX9_isOn_18 : decode cX9_isOn 18 = .ok (.invokestatic 50, 3) := by decide +kernel
theorem eX9_isOn_23 : decode cX9_isOn 23 = .ok (.invokestatic 54, 3) := by decide +kernel
theorem eX9_isOn_26 : decode cX9_isOn 26 = .ok (.invokestatic 57, 3) := by decide +kernel
theorem eX9_isOn_29 : decode cX9_isOn 29 = .ok (.ifCond .eq 25, 3) := by decide +kernel
theorem eX9_isOn_36 : decode cX9_isOn 36 = .ok (.invokestatic 50, 3) := by decide +kernel
theorem eX9_isOn_41 : decode cX9_isOn 41 = .ok (.invokestatic 54, 3) := by decide +kernel
theorem eX9_isOn_44 : decode cX9_isOn 44 = .ok (.invokestatic 57, 3) := by decide +kernel
theorem eX9_isOn_47 : decode cX9_isOn 47 = .ok (.ifCond .eq 7, 3) := by decide +kernel
theorem eX9_isOn_51 : decode cX9_isOn 51 = .ok (.goto 4, 3) := by decide +kernel
theorem eX9_isOn_55 : decode cX9_isOn 55 = .ok (.ireturn, 1) := by decide +kernel
theorem kX9_isWithin_0 : am_dec cX9_isWithin 0 [.iload_n 0, .iload_n 1, .iload_n 2, .iload_n 3, .iload 4, .iload 5] 8 = true := by decide +kernel
theorem kX9_isWithin_14 : am_dec cX9_isWithin 14 [.iload 4, .iload_n 0] 17 = true := by decide +kernel
theorem kX9_isWithin_20 : am_dec cX9_isWithin 20 [.iload 5, .iload_n 1] 23 = true := by decide +kernel
theorem kX9_isWithin_26 : am_dec cX9_isWithin 26 [.iload 4, .iload_n 2] 29 = true := by decide +kernel
theorem kX9_isWithin_32 : am_dec cX9_isWithin 32 [.iload 5, .iload_n 3] 35 = true := by decide +kernel
theorem kX9_isWithin_38 : am_dec cX9_isWithin 38 [.iconst 1] 39 = true := by decide +kernel
theorem kX9_isWithin_42 : am_dec cX9_isWithin 42 [.iconst 0] 43 = true := by decide +kernel
theorem eX9_isWithin_8 : decode cX9_isWithin 8 = .ok (.invokestatic 61, 3) := by decide +kernel
theorem eX9_isWithin_11 : decode cX9_isWithin 11 = .ok (.ifCond .eq 31, 3) := by decide +kernel
theorem eX9_isWithin_17 : decode cX9_isWithin 17 = .ok (.if_icmp .ne 9, 3) := by decide +kernel
theorem eX9_isWithin_23 : decode cX9_isWithin 23 = .ok (.if_icmp .eq 19, 3) := by decide +kernel
theorem eX9_isWithin_29 : decode cX9_isWithin 29 = .ok (.if_icmp .ne 9, 3) := by decide +kernel
theorem eX9_isWithin_35 : decode cX9_isWithin 35 = .ok (.if_icmp .eq 7, 3) := by decide +kernel
theorem eX9_isWithin_39 : decode cX9_isWithin 39 = .ok (.goto 4, 3) := by decide +kernel
theorem eX9_isWithin_43 : decode cX9_isWithin 43 = .ok (.ireturn, 1) := by decide +kernel
theorem kX9_areApart_0 : am_dec cX9_areApart 0 [.iload_n 0] 1 = true := by decide +kernel
theorem kX9_areApart_4 : am_dec cX9_areApart 4 [.iload_n 1] 5 = true := by decide +kernel
theorem kX9_areApart_8 : am_dec cX9_areApart 8 [.iload_n 0] 9 = true := by decide +kernel
theorem kX9_areApart_12 : am_dec cX9_areApart 12 [.iload_n 1] 13 = true := by decide +kernel
theorem kX9_areApart_16 : am_dec cX9_areApart 16 [.iconst 1] 17 = true := by decide +kernel
theorem kX9_areApart_20 : am_dec cX9_areApart 20 [.iconst 0] 21 = true := by decide +kernel
theorem eX9_areApart_1 : decode cX9_areApart 1 = .ok (.ifCond .ge 7, 3) := by decide +kernel
theorem eX9_areApart_5 : decode cX9_areApart 5 = .ok (.ifCond .gt 11, 3) := by decide +kernel
theorem eX9_areApart_9 : decode cX9_areApart 9 = .ok (.ifCond .le 11, 3) := by decide +kernel
theorem eX9_areApart_13 : decode cX9_areApart 13 = .ok (.ifCond .ge 7, 3) := by decide +kernel
theorem eX9_areApart_17 : decode cX9_areApart 17 = .ok (.goto 4, 3) := by decide +kernel
theorem eX9_areApart_21 : decode cX9_areApart 21 = .ok (.ireturn, 1) := by decide +kernel
theorem kX9_meet_0 : am_dec cX9_meet 0 [.iload_n 0, .iload_n 1, .iload_n 2, .iload_n 3, .iload 4, .iload 5] 8 = true := by decide +kernel
theorem kX9_meet_11 : am_dec cX9_meet 11 [.iload_n 0, .iload_n 1, .iload_n 2, .iload_n 3, .iload 6, .iload 7] 19 = true := by decide +kernel
theorem kX9_meet_28 : am_dec cX9_meet 28 [.iload 4, .iload 5, .iload 6, .iload 7, .iload_n 0, .iload_n 1] 38 = true := by decide +kernel
theorem kX9_meet_41 : am_dec cX9_meet 41 [.iload 4, .iload 5, .iload 6, .iload 7, .iload_n 2, .iload_n 3] 51 = true := by decide +kernel
theorem kX9_meet_60 : am_dec cX9_meet 60 [.iconst 1] 61 = true := by decide +kernel
theorem kX9_meet_62 : am_dec cX9_meet 62 [.iload_n 0, .iload_n 1, .iload_n 2, .iload_n 3, .iload 4, .iload 5] 70 = true := by decide +kernel
theorem kX9_meet_76 : am_dec cX9_meet 76 [.iload_n 0, .iload_n 1, .iload_n 2, .iload_n 3, .iload 6, .iload 7] 84 = true := by decide +kernel
theorem kX9_meet_90 : am_dec cX9_meet 90 [.iload 4, .iload 5, .iload 6, .iload 7, .iload_n 0, .iload_n 1] 100 = true := by decide +kernel
theorem kX9_meet_106 : am_dec cX9_meet 106 [.iload 4, .iload 5, .iload 6, .iload 7, .iload_n 2, .iload_n 3] 116 = true := by decide +kernel
theorem kX9_meet_122 : am_dec cX9_meet 122 [.iconst 1] 123 = true := by decide +kernel
theorem kX9_meet_124 : am_dec cX9_meet 124 [.iload_n 0, .iload 4] 127 = true := by decide +kernel
theorem kX9_meet_130 : am_dec cX9_meet 130 [.iload_n 1, .iload 5] 133 = true := by decide +kernel
theorem kX9_meet_136 : am_dec cX9_meet 136 [.iload_n 2, .iload 6] 139 = true := by decide +kernel
theorem kX9_meet_142 : am_dec cX9_meet 142 [.iload_n 3, .iload 7] 145 = true := by decide +kernel
theorem kX9_meet_148 : am_dec cX9_meet 148 [.iload_n 0, .iload 6] 151 = true := by decide +kernel
theorem kX9_meet_154 : am_dec cX9_meet 154 [.iload_n 1, .iload 7] 157 = true := by decide +kernel
theorem kX9_meet_160 : am_dec cX9_meet 160 [.iload_n 2, .iload 4] 163 = true := by decide +kernel
theorem kX9_meet_166 : am_dec cX9_meet 166 [.iload_n 3, .iload 5] 169 = true := by decide +kernel
theorem kX9_meet_172 : am_dec cX9_meet 172 [.iconst 1] 173 = true := by decide +kernel
theorem kX9_meet_176 : am_dec cX9_meet 176 [.iconst 0] 177 = true := by decide +kernel
theorem eX9_meet_8 : decode cX9_meet 8 = .ok (.invokestatic 46, 3) := by decide +kernel
theorem eX9_meet_19 : decode cX9_meet 19 = .ok (.invokestatic 46, 3) := by decide +kernel
theorem eX9_meet_22 : decode cX9_meet 22 = .ok (.invokestatic 65, 3) := by decide +kernel
theorem eX9_meet_25 : decode cX9_meet 25 = .ok (.ifCond .eq 37, 3) := by decide +kernel
theorem eX9_meet_38 : decode cX9_meet 38 = .ok (.invokestatic 46, 3) := by decide +kernel
theorem eX9_meet_51 : decode cX9_meet 51 = .ok (.invokestatic 46, 3) := by decide +kernel
theorem eX9_meet_54 : decode cX9_meet 54 = .ok (.invokestatic 65, 3) := by decide +kernel
theorem eX9_meet_57 : decode cX9_meet 57 = .ok (.ifCond .eq 5, 3) := by decide +kernel
theorem eX9_meet_61 : decode cX9_meet 61 = .ok (.ireturn, 1) := by decide +kernel
theorem eX9_meet_70 : decode cX9_meet 70 = .ok (.invokestatic 69, 3) := by decide +kernel
theorem eX9_meet_73 : decode cX9_meet 73 = .ok (.ifCond .ne 49, 3) := by decide +kernel
theorem eX9_meet_84 : decode cX9_meet 84 = .ok (.invokestatic 69, 3) := by decide +kernel
theorem eX9_meet_87 : decode cX9_meet 87 = .ok (.ifCond .ne 35, 3) := by decide +kernel
theorem eX9_meet_100 : decode cX9_meet 100 = .ok (.invokestatic 69, 3) := by decide +kernel
theorem eX9_meet_103 : decode cX9_meet 103 = .ok (.ifCond .ne 19, 3) := by decide +kernel
theorem eX9_meet_116 : decode cX9_meet 116 = .ok (.invokestatic 69, 3) := by decide +kernel
theorem eX9_meet_119 : decode cX9_meet 119 = .ok (.ifCond .eq 5, 3) := by decide +kernel
theorem eX9_meet_123 : decode cX9_meet 123 = .ok (.ireturn, 1) := by decide +kernel
theorem eX9_meet_127 : decode cX9_meet 127 = .ok (.if_icmp .ne 21, 3) := by decide +kernel
theorem eX9_meet_133 : decode cX9_meet 133 = .ok (.if_icmp .ne 15, 3) := by decide +kernel
theorem eX9_meet_139 : decode cX9_meet 139 = .ok (.if_icmp .ne 9, 3) := by decide +kernel
theorem eX9_meet_145 : decode cX9_meet 145 = .ok (.if_icmp .eq 27, 3) := by decide +kernel
theorem eX9_meet_151 : decode cX9_meet 151 = .ok (.if_icmp .ne 25, 3) := by decide +kernel
theorem eX9_meet_157 : decode cX9_meet 157 = .ok (.if_icmp .ne 19, 3) := by decide +kernel
theorem eX9_meet_163 : decode cX9_meet 163 = .ok (.if_icmp .ne 13, 3) := by decide +kernel
theorem eX9_meet_169 : decode cX9_meet 169 = .ok (.if_icmp .ne 7, 3) := by decide +kernel
theorem eX9_meet_173 : decode cX9_meet 173 = .ok (.goto 4, 3) := by decide +kernel
theorem eX9_meet_177 : decode cX9_meet 177 = .ok (.ireturn, 1) := by decide +kernel
theorem kX9_isStone_0 : am_dec cX9_isStone 0 [.iconst 0, .istore_n 3] 2 = true := by decide +kernel
theorem kX9_isStone_2 : am_dec cX9_isStone 2 [.iload_n 3, .aload_n 0] 4 = true := by decide +kernel
theorem kX9_isStone_7 : am_dec cX9_isStone 7 [.iconst 2] 8 = true := by decide +kernel
theorem kX9_isStone_12 : am_dec cX9_isStone 12 [.aload_n 0] 13 = true := by decide +kernel
theorem kX9_isStone_16 : am_dec cX9_isStone 16 [.bipush 6, .iconst 3, .iload_n 3, .imul, .iadd] 22 = true := by decide +kernel
theorem kX9_isStone_23 : am_dec cX9_isStone 23 [.iload_n 1] 24 = true := by decide +kernel
theorem kX9_isStone_27 : am_dec cX9_isStone 27 [.aload_n 0] 28 = true := by decide +kernel
theorem kX9_isStone_31 : am_dec cX9_isStone 31 [.bipush 6, .iconst 3, .iload_n 3, .imul, .iadd, .iconst 1, .iadd] 39 = true := by decide +kernel
theorem kX9_isStone_40 : am_dec cX9_isStone 40 [.iload_n 2] 41 = true := by decide +kernel
theorem kX9_isStone_44 : am_dec cX9_isStone 44 [.iconst 1] 45 = true := by decide +kernel
theorem kX9_isStone_46 : am_dec cX9_isStone 46 [.iinc 3 1] 49 = true := by decide +kernel
theorem kX9_isStone_52 : am_dec cX9_isStone 52 [.iconst 0] 53 = true := by decide +kernel
theorem eX9_isStone_4 : decode cX9_isStone 4 = .ok (.getfield 17, 3) := by decide +kernel
theorem eX9_isStone_8 : decode cX9_isStone 8 = .ok (.iaload, 1) := by decide +kernel
theorem eX9_isStone_9 : decode cX9_isStone 9 = .ok (.if_icmp .ge 43, 3) := by decide +kernel
theorem eX9_isStone_13 : decode cX9_isStone 13 = .ok (.getfield 17, 3) := by decide +kernel
theorem eX9_isStone_22 : decode cX9_isStone 22 = .ok (.iaload, 1) := by decide +kernel
theorem eX9_isStone_24 : decode cX9_isStone 24 = .ok (.if_icmp .ne 22, 3) := by decide +kernel
theorem eX9_isStone_28 : decode cX9_isStone 28 = .ok (.getfield 17, 3) := by decide +kernel
theorem eX9_isStone_39 : decode cX9_isStone 39 = .ok (.iaload, 1) := by decide +kernel
theorem eX9_isStone_41 : decode cX9_isStone 41 = .ok (.if_icmp .ne 5, 3) := by decide +kernel
theorem eX9_isStone_45 : decode cX9_isStone 45 = .ok (.ireturn, 1) := by decide +kernel
theorem eX9_isStone_49 : decode cX9_isStone 49 = .ok (.goto (-47), 3) := by decide +kernel
theorem eX9_isStone_53 : decode cX9_isStone 53 = .ok (.ireturn, 1) := by decide +kernel
theorem kX9_isTaken_0 : am_dec cX9_isTaken 0 [.iconst 0, .istore_n 3] 2 = true := by decide +kernel
theorem kX9_isTaken_2 : am_dec cX9_isTaken 2 [.iload_n 3, .aload_n 0] 4 = true := by decide +kernel
theorem kX9_isTaken_7 : am_dec cX9_isTaken 7 [.iconst 3] 8 = true := by decide +kernel
theorem kX9_isTaken_12 : am_dec cX9_isTaken 12 [.iconst 0, .istore 4] 15 = true := by decide +kernel
theorem kX9_isTaken_15 : am_dec cX9_isTaken 15 [.iload 4, .aload_n 0, .iload_n 3] 19 = true := by decide +kernel
theorem kX9_isTaken_25 : am_dec cX9_isTaken 25 [.aload_n 0, .iload_n 3, .iload 4] 29 = true := by decide +kernel
theorem kX9_isTaken_32 : am_dec cX9_isTaken 32 [.iload_n 1] 33 = true := by decide +kernel
theorem kX9_isTaken_36 : am_dec cX9_isTaken 36 [.aload_n 0, .iload_n 3, .iload 4] 40 = true := by decide +kernel
theorem kX9_isTaken_43 : am_dec cX9_isTaken 43 [.iload_n 2] 44 = true := by decide +kernel
theorem kX9_isTaken_47 : am_dec cX9_isTaken 47 [.iconst 1] 48 = true := by decide +kernel
theorem kX9_isTaken_49 : am_dec cX9_isTaken 49 [.iinc 4 1] 52 = true := by decide +kernel
theorem kX9_isTaken_55 : am_dec cX9_isTaken 55 [.iinc 3 1] 58 = true := by decide +kernel
theorem kX9_isTaken_61 : am_dec cX9_isTaken 61 [.aload_n 0, .iload_n 1, .iload_n 2] 64 = true := by decide +kernel
theorem eX9_isTaken_4 : decode cX9_isTaken 4 = .ok (.getfield 17, 3) := by decide +kernel
theorem eX9_isTaken_8 : decode cX9_isTaken 8 = .ok (.iaload, 1) := by decide +kernel
theorem eX9_isTaken_9 : decode cX9_isTaken 9 = .ok (.if_icmp .ge 52, 3) := by decide +kernel
theorem eX9_isTaken_19 : decode cX9_isTaken 19 = .ok (.invokevirtual 39, 3) := by decide +kernel
theorem eX9_isTaken_22 : decode cX9_isTaken 22 = .ok (.if_icmp .ge 33, 3) := by decide +kernel
theorem eX9_isTaken_29 : decode cX9_isTaken 29 = .ok (.invokevirtual 72, 3) := by decide +kernel
theorem eX9_isTaken_33 : decode cX9_isTaken 33 = .ok (.if_icmp .ne 16, 3) := by decide +kernel
theorem eX9_isTaken_40 : decode cX9_isTaken 40 = .ok (.invokevirtual 75, 3) := by decide +kernel
theorem eX9_isTaken_44 : decode cX9_isTaken 44 = .ok (.if_icmp .ne 5, 3) := by decide +kernel
theorem eX9_isTaken_48 : decode cX9_isTaken 48 = .ok (.ireturn, 1) := by decide +kernel
theorem eX9_isTaken_52 : decode cX9_isTaken 52 = .ok (.goto (-37), 3) := by decide +kernel
theorem eX9_isTaken_58 : decode cX9_isTaken 58 = .ok (.goto (-56), 3) := by decide +kernel
theorem eX9_isTaken_64 : decode cX9_isTaken 64 = .ok (.invokevirtual 78, 3) := by decide +kernel
theorem eX9_isTaken_67 : decode cX9_isTaken 67 = .ok (.ireturn, 1) := by decide +kernel
theorem kX9_isOnSide_0 : am_dec cX9_isOnSide 0 [.iconst 0, .istore_n 3] 2 = true := by decide +kernel
theorem kX9_isOnSide_2 : am_dec cX9_isOnSide 2 [.iload_n 3, .aload_n 0] 4 = true := by decide +kernel
theorem kX9_isOnSide_7 : am_dec cX9_isOnSide 7 [.iconst 3] 8 = true := by decide +kernel
theorem kX9_isOnSide_12 : am_dec cX9_isOnSide 12 [.iconst 0, .istore 4] 15 = true := by decide +kernel
theorem kX9_isOnSide_15 : am_dec cX9_isOnSide 15 [.iload 4, .aload_n 0, .iload_n 3] 19 = true := by decide +kernel
theorem kX9_isOnSide_25 : am_dec cX9_isOnSide 25 [.aload_n 0, .iload_n 3, .iload 4] 29 = true := by decide +kernel
theorem kX9_isOnSide_32 : am_dec cX9_isOnSide 32 [.aload_n 0, .iload_n 3, .iload 4] 36 = true := by decide +kernel
theorem kX9_isOnSide_39 : am_dec cX9_isOnSide 39 [.aload_n 0, .iload_n 3, .aload_n 0, .iload_n 3, .iload 4] 45 = true := by decide +kernel
theorem kX9_isOnSide_51 : am_dec cX9_isOnSide 51 [.aload_n 0, .iload_n 3, .aload_n 0, .iload_n 3, .iload 4] 57 = true := by decide +kernel
theorem kX9_isOnSide_63 : am_dec cX9_isOnSide 63 [.iload_n 1, .iload_n 2] 65 = true := by decide +kernel
theorem kX9_isOnSide_71 : am_dec cX9_isOnSide 71 [.iconst 1] 72 = true := by decide +kernel
theorem kX9_isOnSide_73 : am_dec cX9_isOnSide 73 [.iinc 4 1] 76 = true := by decide +kernel
theorem kX9_isOnSide_79 : am_dec cX9_isOnSide 79 [.iinc 3 1] 82 = true := by decide +kernel
theorem kX9_isOnSide_85 : am_dec cX9_isOnSide 85 [.iconst 0] 86 = true := by decide +kernel
theorem eX9_isOnSide_4 : decode cX9_isOnSide 4 = .ok (.getfield 17, 3) := by decide +kernel
theorem eX9_isOnSide_8 : decode cX9_isOnSide 8 = .ok (.iaload, 1) := by decide +kernel
theorem eX9_isOnSide_9 : decode cX9_isOnSide 9 = .ok (.if_icmp .ge 76, 3) := by decide +kernel
theorem eX9_isOnSide_19 : decode cX9_isOnSide 19 = .ok (.invokevirtual 81, 3) := by decide +kernel
theorem eX9_isOnSide_22 : decode cX9_isOnSide 22 = .ok (.if_icmp .ge 57, 3) := by decide +kernel
theorem eX9_isOnSide_29 : decode cX9_isOnSide 29 = .ok (.invokevirtual 72, 3) := by decide +kernel
theorem eX9_isOnSide_36 : decode cX9_isOnSide 36 = .ok (.invokevirtual 75, 3) := by decide +kernel
theorem eX9_isOnSide_45 : decode cX9_isOnSide 45 = .ok (.invokevirtual 84, 3) := by decide +kernel
theorem eX9_isOnSide_48 : decode cX9_isOnSide 48 = .ok (.invokevirtual 72, 3) := by decide +kernel
theorem eX9_isOnSide_57 : decode cX9_isOnSide 57 = .ok (.invokevirtual 84, 3) := by decide +kernel
theorem eX9_isOnSide_60 : decode cX9_isOnSide 60 = .ok (.invokevirtual 75, 3) := by decide +kernel
theorem eX9_isOnSide_65 : decode cX9_isOnSide 65 = .ok (.invokestatic 61, 3) := by decide +kernel
theorem eX9_isOnSide_68 : decode cX9_isOnSide 68 = .ok (.ifCond .eq 5, 3) := by decide +kernel
theorem eX9_isOnSide_72 : decode cX9_isOnSide 72 = .ok (.ireturn, 1) := by decide +kernel
theorem eX9_isOnSide_76 : decode cX9_isOnSide 76 = .ok (.goto (-61), 3) := by decide +kernel
theorem eX9_isOnSide_82 : decode cX9_isOnSide 82 = .ok (.goto (-80), 3) := by decide +kernel
theorem eX9_isOnSide_86 : decode cX9_isOnSide 86 = .ok (.ireturn, 1) := by decide +kernel
theorem kX9_goes_0 : am_dec cX9_goes 0 [.aload_n 0, .iload_n 1] 2 = true := by decide +kernel
theorem kX9_goes_5 : am_dec cX9_goes 5 [.aload_n 0, .iload_n 2] 7 = true := by decide +kernel
theorem kX9_goes_10 : am_dec cX9_goes 10 [.aload_n 0, .iload_n 3] 12 = true := by decide +kernel
theorem kX9_goes_15 : am_dec cX9_goes 15 [.aload_n 0, .iload 4] 18 = true := by decide +kernel
theorem eX9_goes_2 : decode cX9_goes 2 = .ok (.putfield 87, 3) := by decide +kernel
theorem eX9_goes_7 : decode cX9_goes 7 = .ok (.putfield 90, 3) := by decide +kernel
theorem eX9_goes_12 : decode cX9_goes 12 = .ok (.putfield 93, 3) := by decide +kernel
theorem eX9_goes_18 : decode cX9_goes 18 = .ok (.putfield 96, 3) := by decide +kernel
theorem eX9_goes_21 : decode cX9_goes 21 = .ok (.return_, 1) := by decide +kernel
theorem kX9_isBlocked_0 : am_dec cX9_isBlocked 0 [.iconst 0, .istore 5] 3 = true := by decide +kernel
theorem kX9_isBlocked_3 : am_dec cX9_isBlocked 3 [.iload 5, .aload_n 0] 6 = true := by decide +kernel
theorem kX9_isBlocked_9 : am_dec cX9_isBlocked 9 [.iconst 2] 10 = true := by decide +kernel
theorem kX9_isBlocked_14 : am_dec cX9_isBlocked 14 [.iload_n 1, .iload_n 2, .iload_n 3, .iload 4, .aload_n 0] 20 = true := by decide +kernel
theorem kX9_isBlocked_23 : am_dec cX9_isBlocked 23 [.bipush 6, .iconst 3, .iload 5, .imul, .iadd] 30 = true := by decide +kernel
theorem kX9_isBlocked_31 : am_dec cX9_isBlocked 31 [.aload_n 0] 32 = true := by decide +kernel
theorem kX9_isBlocked_35 : am_dec cX9_isBlocked 35 [.bipush 6, .iconst 3, .iload 5, .imul, .iadd, .iconst 1, .iadd] 44 = true := by decide +kernel
theorem kX9_isBlocked_51 : am_dec cX9_isBlocked 51 [.iconst 1] 52 = true := by decide +kernel
theorem kX9_isBlocked_53 : am_dec cX9_isBlocked 53 [.iinc 5 1] 56 = true := by decide +kernel
theorem kX9_isBlocked_59 : am_dec cX9_isBlocked 59 [.iconst 0, .istore 5] 62 = true := by decide +kernel
theorem kX9_isBlocked_62 : am_dec cX9_isBlocked 62 [.iload 5, .aload_n 0] 65 = true := by decide +kernel
theorem kX9_isBlocked_68 : am_dec cX9_isBlocked 68 [.iconst 3] 69 = true := by decide +kernel
theorem kX9_isBlocked_73 : am_dec cX9_isBlocked 73 [.iconst 0, .istore 6] 76 = true := by decide +kernel
theorem kX9_isBlocked_76 : am_dec cX9_isBlocked 76 [.iload 6, .aload_n 0, .iload 5] 81 = true := by decide +kernel
theorem kX9_isBlocked_87 : am_dec cX9_isBlocked 87 [.iload 5, .aload_n 0] 90 = true := by decide +kernel
theorem kX9_isBlocked_96 : am_dec cX9_isBlocked 96 [.iload 6, .aload_n 0] 99 = true := by decide +kernel
theorem kX9_isBlocked_105 : am_dec cX9_isBlocked 105 [.iload_n 1, .iload_n 2, .iload_n 3, .iload 4, .aload_n 0, .iload 5, .iload 6] 115 = true := by decide +kernel
theorem kX9_isBlocked_118 : am_dec cX9_isBlocked 118 [.aload_n 0, .iload 5, .iload 6] 123 = true := by decide +kernel
theorem kX9_isBlocked_132 : am_dec cX9_isBlocked 132 [.iconst 1] 133 = true := by decide +kernel
theorem kX9_isBlocked_134 : am_dec cX9_isBlocked 134 [.iinc 6 1] 137 = true := by decide +kernel
theorem kX9_isBlocked_140 : am_dec cX9_isBlocked 140 [.iinc 5 1] 143 = true := by decide +kernel
theorem kX9_isBlocked_146 : am_dec cX9_isBlocked 146 [.iconst 0] 147 = true := by decide +kernel
theorem eX9_isBlocked_6 : decode cX9_isBlocked 6 = .ok (.getfield 17, 3) := by decide +kernel
theorem eX9_isBlocked_10 : decode cX9_isBlocked 10 = .ok (.iaload, 1) := by decide +kernel
theorem eX9_isBlocked_11 : decode cX9_isBlocked 11 = .ok (.if_icmp .ge 48, 3) := by decide +kernel
theorem eX9_isBlocked_20 : decode cX9_isBlocked 20 = .ok (.getfield 17, 3) := by decide +kernel
theorem eX9_isBlocked_30 : decode cX9_isBlocked 30 = .ok (.iaload, 1) := by decide +kernel
theorem eX9_isBlocked_32 : decode cX9_isBlocked 32 = .ok (.getfield 17, 3) := by decide +kernel
theorem eX9_isBlocked_44 : decode cX9_isBlocked 44 = .ok (.iaload, 1) := by decide +kernel
theorem eX9_isBlocked_45 : decode cX9_isBlocked 45 = .ok (.invokestatic 61, 3) := by decide +kernel
theorem eX9_isBlocked_48 : decode cX9_isBlocked 48 = .ok (.ifCond .eq 5, 3) := by decide +kernel
theorem eX9_isBlocked_52 : decode cX9_isBlocked 52 = .ok (.ireturn, 1) := by decide +kernel
theorem eX9_isBlocked_56 : decode cX9_isBlocked 56 = .ok (.goto (-53), 3) := by decide +kernel
theorem eX9_isBlocked_65 : decode cX9_isBlocked 65 = .ok (.getfield 17, 3) := by decide +kernel
theorem eX9_isBlocked_69 : decode cX9_isBlocked 69 = .ok (.iaload, 1) := by decide +kernel
theorem eX9_isBlocked_70 : decode cX9_isBlocked 70 = .ok (.if_icmp .ge 76, 3) := by decide +kernel
theorem eX9_isBlocked_81 : decode cX9_isBlocked 81 = .ok (.invokevirtual 39, 3) := by decide +kernel
theorem eX9_isBlocked_84 : decode cX9_isBlocked 84 = .ok (.if_icmp .ge 56, 3) := by decide +kernel
theorem eX9_isBlocked_90 : decode cX9_isBlocked 90 = .ok (.getfield 87, 3) := by decide +kernel
theorem eX9_isBlocked_93 : decode cX9_isBlocked 93 = .ok (.if_icmp .ne 12, 3) := by decide +kernel
theorem eX9_isBlocked_99 : decode cX9_isBlocked 99 = .ok (.getfield 96, 3) := by decide +kernel
theorem eX9_isBlocked_102 : decode cX9_isBlocked 102 = .ok (.if_icmp .eq 32, 3) := by decide +kernel
theorem eX9_isBlocked_115 : decode cX9_isBlocked 115 = .ok (.invokevirtual 72, 3) := by decide +kernel
theorem eX9_isBlocked_123 : decode cX9_isBlocked 123 = .ok (.invokevirtual 75, 3) := by decide +kernel
theorem eX9_isBlocked_126 : decode cX9_isBlocked 126 = .ok (.invokestatic 69, 3) := by decide +kernel
theorem eX9_isBlocked_129 : decode cX9_isBlocked 129 = .ok (.ifCond .eq 5, 3) := by decide +kernel
theorem eX9_isBlocked_133 : decode cX9_isBlocked 133 = .ok (.ireturn, 1) := by decide +kernel
theorem eX9_isBlocked_137 : decode cX9_isBlocked 137 = .ok (.goto (-61), 3) := by decide +kernel
theorem eX9_isBlocked_143 : decode cX9_isBlocked 143 = .ok (.goto (-81), 3) := by decide +kernel
theorem eX9_isBlocked_147 : decode cX9_isBlocked 147 = .ok (.ireturn, 1) := by decide +kernel
theorem kX9_isCrossed_0 : am_dec cX9_isCrossed 0 [.iconst 0, .istore 5] 3 = true := by decide +kernel
theorem kX9_isCrossed_3 : am_dec cX9_isCrossed 3 [.iload 5, .aload_n 0] 6 = true := by decide +kernel
theorem kX9_isCrossed_9 : am_dec cX9_isCrossed 9 [.iconst 3] 10 = true := by decide +kernel
theorem kX9_isCrossed_14 : am_dec cX9_isCrossed 14 [.iconst 0, .istore 6] 17 = true := by decide +kernel
theorem kX9_isCrossed_17 : am_dec cX9_isCrossed 17 [.iload 6, .aload_n 0, .iload 5] 22 = true := by decide +kernel
theorem kX9_isCrossed_28 : am_dec cX9_isCrossed 28 [.iload 5, .aload_n 0] 31 = true := by decide +kernel
theorem kX9_isCrossed_37 : am_dec cX9_isCrossed 37 [.iload 6, .aload_n 0] 40 = true := by decide +kernel
theorem kX9_isCrossed_46 : am_dec cX9_isCrossed 46 [.iload 6, .aload_n 0] 49 = true := by decide +kernel
theorem kX9_isCrossed_58 : am_dec cX9_isCrossed 58 [.iload_n 1, .iload_n 2, .iload_n 3, .iload 4, .aload_n 0, .iload 5, .iload 6] 68 = true := by decide +kernel
theorem kX9_isCrossed_71 : am_dec cX9_isCrossed 71 [.aload_n 0, .iload 5, .iload 6] 76 = true := by decide +kernel
theorem kX9_isCrossed_79 : am_dec cX9_isCrossed 79 [.aload_n 0, .iload 5, .aload_n 0, .iload 5, .iload 6] 87 = true := by decide +kernel
theorem kX9_isCrossed_93 : am_dec cX9_isCrossed 93 [.aload_n 0, .iload 5, .aload_n 0, .iload 5, .iload 6] 101 = true := by decide +kernel
theorem kX9_isCrossed_113 : am_dec cX9_isCrossed 113 [.iconst 1] 114 = true := by decide +kernel
theorem kX9_isCrossed_115 : am_dec cX9_isCrossed 115 [.iinc 6 1] 118 = true := by decide +kernel
theorem kX9_isCrossed_121 : am_dec cX9_isCrossed 121 [.iinc 5 1] 124 = true := by decide +kernel
theorem kX9_isCrossed_127 : am_dec cX9_isCrossed 127 [.iconst 0] 128 = true := by decide +kernel
theorem eX9_isCrossed_6 : decode cX9_isCrossed 6 = .ok (.getfield 17, 3) := by decide +kernel
theorem eX9_isCrossed_10 : decode cX9_isCrossed 10 = .ok (.iaload, 1) := by decide +kernel
theorem eX9_isCrossed_11 : decode cX9_isCrossed 11 = .ok (.if_icmp .ge 116, 3) := by decide +kernel
theorem eX9_isCrossed_22 : decode cX9_isCrossed 22 = .ok (.invokevirtual 81, 3) := by decide +kernel
theorem eX9_isCrossed_25 : decode cX9_isCrossed 25 = .ok (.if_icmp .ge 96, 3) := by decide +kernel
theorem eX9_isCrossed_31 : decode cX9_isCrossed 31 = .ok (.getfield 87, 3) := by decide +kernel
theorem eX9_isCrossed_34 : decode cX9_isCrossed 34 = .ok (.if_icmp .ne 24, 3) := by decide +kernel
theorem eX9_isCrossed_40 : decode cX9_isCrossed 40 = .ok (.getfield 90, 3) := by decide +kernel
theorem eX9_isCrossed_43 : decode cX9_isCrossed 43 = .ok (.if_icmp .eq 72, 3) := by decide +kernel
theorem eX9_isCrossed_49 : decode cX9_isCrossed 49 = .ok (.getfield 93, 3) := by decide +kernel
theorem eX9_isCrossed_52 : decode cX9_isCrossed 52 = .ok (.if_icmp .ne 6, 3) := by decide +kernel
theorem eX9_isCrossed_55 : decode cX9_isCrossed 55 = .ok (.goto 60, 3) := by decide +kernel
theorem eX9_isCrossed_68 : decode cX9_isCrossed 68 = .ok (.invokevirtual 72, 3) := by decide +kernel
theorem eX9_isCrossed_76 : decode cX9_isCrossed 76 = .ok (.invokevirtual 75, 3) := by decide +kernel
theorem eX9_isCrossed_87 : decode cX9_isCrossed 87 = .ok (.invokevirtual 84, 3) := by decide +kernel
theorem eX9_isCrossed_90 : decode cX9_isCrossed 90 = .ok (.invokevirtual 72, 3) := by decide +kernel
theorem eX9_isCrossed_101 : decode cX9_isCrossed 101 = .ok (.invokevirtual 84, 3) := by decide +kernel
theorem eX9_isCrossed_104 : decode cX9_isCrossed 104 = .ok (.invokevirtual 75, 3) := by decide +kernel
theorem eX9_isCrossed_107 : decode cX9_isCrossed 107 = .ok (.invokestatic 99, 3) := by decide +kernel
theorem eX9_isCrossed_110 : decode cX9_isCrossed 110 = .ok (.ifCond .eq 5, 3) := by decide +kernel
theorem eX9_isCrossed_114 : decode cX9_isCrossed 114 = .ok (.ireturn, 1) := by decide +kernel
theorem eX9_isCrossed_118 : decode cX9_isCrossed 118 = .ok (.goto (-101), 3) := by decide +kernel
theorem eX9_isCrossed_124 : decode cX9_isCrossed 124 = .ok (.goto (-121), 3) := by decide +kernel
theorem eX9_isCrossed_128 : decode cX9_isCrossed 128 = .ok (.ireturn, 1) := by decide +kernel
theorem kX9_lineReason_0 : am_dec cX9_lineReason 0 [.aload_n 0, .iload_n 1, .iload_n 2, .iload_n 3, .iload 4] 6 = true := by decide +kernel
theorem kX9_lineReason_12 : am_dec cX9_lineReason 12 [.iconst 4] 13 = true := by decide +kernel
theorem kX9_lineReason_16 : am_dec cX9_lineReason 16 [.aload_n 0, .iload_n 1, .iload_n 2, .iload_n 3, .iload 4] 22 = true := by decide +kernel
theorem kX9_lineReason_28 : am_dec cX9_lineReason 28 [.iconst 5] 29 = true := by decide +kernel
theorem kX9_lineReason_32 : am_dec cX9_lineReason 32 [.iconst 0] 33 = true := by decide +kernel
theorem eX9_lineReason_6 : decode cX9_lineReason 6 = .ok (.invokevirtual 103, 3) := by decide +kernel
theorem eX9_lineReason_9 : decode cX9_lineReason 9 = .ok (.ifCond .eq 7, 3) := by decide +kernel
theorem eX9_lineReason_13 : decode cX9_lineReason 13 = .ok (.goto 20, 3) := by decide +kernel
theorem eX9_lineReason_22 : decode cX9_lineReason 22 = .ok (.invokevirtual 107, 3) := by decide +kernel
theorem eX9_lineReason_25 : decode cX9_lineReason 25 = .ok (.ifCond .eq 7, 3) := by decide +kernel
theorem eX9_lineReason_29 : decode cX9_lineReason 29 = .ok (.goto 4, 3) := by decide +kernel
theorem eX9_lineReason_33 : decode cX9_lineReason 33 = .ok (.ireturn, 1) := by decide +kernel
theorem kX9_cornerReason_0 : am_dec cX9_cornerReason 0 [.aload_n 0, .iload_n 1] 2 = true := by decide +kernel
theorem kX9_cornerReason_8 : am_dec cX9_cornerReason 8 [.iconst 1] 9 = true := by decide +kernel
theorem kX9_cornerReason_10 : am_dec cX9_cornerReason 10 [.aload_n 0, .iload_n 1] 12 = true := by decide +kernel
theorem kX9_cornerReason_15 : am_dec cX9_cornerReason 15 [.bipush 12] 17 = true := by decide +kernel
theorem kX9_cornerReason_20 : am_dec cX9_cornerReason 20 [.iconst 2] 21 = true := by decide +kernel
theorem kX9_cornerReason_22 : am_dec cX9_cornerReason 22 [.aload_n 0, .iload_n 2, .iload_n 3] 25 = true := by decide +kernel
theorem kX9_cornerReason_31 : am_dec cX9_cornerReason 31 [.iconst 3] 32 = true := by decide +kernel
theorem kX9_cornerReason_33 : am_dec cX9_cornerReason 33 [.aload_n 0, .iconst (-1), .iconst (-1), .iconst (-1), .iconst (-1)] 38 = true := by decide +kernel
theorem kX9_cornerReason_41 : am_dec cX9_cornerReason 41 [.aload_n 0, .iload_n 1] 43 = true := by decide +kernel
theorem kX9_cornerReason_46 : am_dec cX9_cornerReason 46 [.iconst 1, .isub, .istore 4, .aload_n 0, .aload_n 0, .iload_n 1, .iload 4] 55 = true := by decide +kernel
theorem kX9_cornerReason_58 : am_dec cX9_cornerReason 58 [.aload_n 0, .iload_n 1, .iload 4] 62 = true := by decide +kernel
theorem kX9_cornerReason_65 : am_dec cX9_cornerReason 65 [.iload_n 2, .iload_n 3] 67 = true := by decide +kernel
theorem eX9_cornerReason_2 : decode cX9_cornerReason 2 = .ok (.invokevirtual 42, 3) := by decide +kernel
theorem eX9_cornerReason_5 : decode cX9_cornerReason 5 = .ok (.ifCond .eq 5, 3) := by decide +kernel
theorem eX9_cornerReason_9 : decode cX9_cornerReason 9 = .ok (.ireturn, 1) := by decide +kernel
theorem eX9_cornerReason_12 : decode cX9_cornerReason 12 = .ok (.invokevirtual 39, 3) := by decide +kernel
theorem eX9_cornerReason_17 : decode cX9_cornerReason 17 = .ok (.if_icmp .ne 5, 3) := by decide +kernel
theorem eX9_cornerReason_21 : decode cX9_cornerReason 21 = .ok (.ireturn, 1) := by decide +kernel
theorem eX9_cornerReason_25 : decode cX9_cornerReason 25 = .ok (.invokevirtual 110, 3) := by decide +kernel
theorem eX9_cornerReason_28 : decode cX9_cornerReason 28 = .ok (.ifCond .eq 5, 3) := by decide +kernel
theorem eX9_cornerReason_32 : decode cX9_cornerReason 32 = .ok (.ireturn, 1) := by decide +kernel
theorem eX9_cornerReason_38 : decode cX9_cornerReason 38 = .ok (.invokevirtual 113, 3) := by decide +kernel
theorem eX9_cornerReason_43 : decode cX9_cornerReason 43 = .ok (.invokevirtual 39, 3) := by decide +kernel
theorem eX9_cornerReason_55 : decode cX9_cornerReason 55 = .ok (.invokevirtual 72, 3) := by decide +kernel
theorem eX9_cornerReason_62 : decode cX9_cornerReason 62 = .ok (.invokevirtual 75, 3) := by decide +kernel
theorem eX9_cornerReason_67 : decode cX9_cornerReason 67 = .ok (.invokevirtual 117, 3) := by decide +kernel
theorem eX9_cornerReason_70 : decode cX9_cornerReason 70 = .ok (.ireturn, 1) := by decide +kernel
theorem kX9_closeReason_0 : am_dec cX9_closeReason 0 [.aload_n 0, .iload_n 1] 2 = true := by decide +kernel
theorem kX9_closeReason_8 : am_dec cX9_closeReason 8 [.iconst 1] 9 = true := by decide +kernel
theorem kX9_closeReason_10 : am_dec cX9_closeReason 10 [.aload_n 0, .iload_n 1] 12 = true := by decide +kernel
theorem kX9_closeReason_15 : am_dec cX9_closeReason 15 [.iconst 3] 16 = true := by decide +kernel
theorem kX9_closeReason_19 : am_dec cX9_closeReason 19 [.bipush 6] 21 = true := by decide +kernel
theorem kX9_closeReason_22 : am_dec cX9_closeReason 22 [.aload_n 0, .iconst (-1), .iconst (-1), .iconst (-1), .iconst (-1)] 27 = true := by decide +kernel
theorem kX9_closeReason_30 : am_dec cX9_closeReason 30 [.aload_n 0, .iload_n 1] 32 = true := by decide +kernel
theorem kX9_closeReason_35 : am_dec cX9_closeReason 35 [.iconst 1, .isub, .istore_n 2, .aload_n 0, .aload_n 0, .iload_n 1, .iload_n 2] 42 = true := by decide +kernel
theorem kX9_closeReason_45 : am_dec cX9_closeReason 45 [.aload_n 0, .iload_n 1, .iload_n 2] 48 = true := by decide +kernel
theorem kX9_closeReason_51 : am_dec cX9_closeReason 51 [.aload_n 0, .iload_n 1, .iconst 0] 54 = true := by decide +kernel
theorem kX9_closeReason_57 : am_dec cX9_closeReason 57 [.aload_n 0, .iload_n 1, .iconst 0] 60 = true := by decide +kernel
theorem eX9_closeReason_2 : decode cX9_closeReason 2 = .ok (.invokevirtual 42, 3) := by decide +kernel
theorem eX9_closeReason_5 : decode cX9_closeReason 5 = .ok (.ifCond .eq 5, 3) := by decide +kernel
theorem eX9_closeReason_9 : decode cX9_closeReason 9 = .ok (.ireturn, 1) := by decide +kernel
theorem eX9_closeReason_12 : decode cX9_closeReason 12 = .ok (.invokevirtual 39, 3) := by decide +kernel
theorem eX9_closeReason_16 : decode cX9_closeReason 16 = .ok (.if_icmp .ge 6, 3) := by decide +kernel
theorem eX9_closeReason_21 : decode cX9_closeReason 21 = .ok (.ireturn, 1) := by decide +kernel
theorem eX9_closeReason_27 : decode cX9_closeReason 27 = .ok (.invokevirtual 113, 3) := by decide +kernel
theorem eX9_closeReason_32 : decode cX9_closeReason 32 = .ok (.invokevirtual 39, 3) := by decide +kernel
theorem eX9_closeReason_42 : decode cX9_closeReason 42 = .ok (.invokevirtual 72, 3) := by decide +kernel
theorem eX9_closeReason_48 : decode cX9_closeReason 48 = .ok (.invokevirtual 75, 3) := by decide +kernel
theorem eX9_closeReason_54 : decode cX9_closeReason 54 = .ok (.invokevirtual 72, 3) := by decide +kernel
theorem eX9_closeReason_60 : decode cX9_closeReason 60 = .ok (.invokevirtual 75, 3) := by decide +kernel
theorem eX9_closeReason_63 : decode cX9_closeReason 63 = .ok (.invokevirtual 117, 3) := by decide +kernel
theorem eX9_closeReason_66 : decode cX9_closeReason 66 = .ok (.ireturn, 1) := by decide +kernel
theorem kX9_bendReason_0 : am_dec cX9_bendReason 0 [.aload_n 0, .iload_n 1] 2 = true := by decide +kernel
theorem kX9_bendReason_8 : am_dec cX9_bendReason 8 [.iconst 1] 9 = true := by decide +kernel
theorem kX9_bendReason_10 : am_dec cX9_bendReason 10 [.aload_n 0, .iload_n 1] 12 = true := by decide +kernel
theorem kX9_bendReason_15 : am_dec cX9_bendReason 15 [.bipush 12] 17 = true := by decide +kernel
theorem kX9_bendReason_20 : am_dec cX9_bendReason 20 [.iconst 2] 21 = true := by decide +kernel
theorem kX9_bendReason_22 : am_dec cX9_bendReason 22 [.aload_n 0, .iload_n 3, .iload 4] 26 = true := by decide +kernel
theorem kX9_bendReason_32 : am_dec cX9_bendReason 32 [.iconst 3] 33 = true := by decide +kernel
theorem kX9_bendReason_34 : am_dec cX9_bendReason 34 [.aload_n 0, .iload_n 1, .iload_n 2, .iconst (-1), .iconst (-1)] 39 = true := by decide +kernel
theorem kX9_bendReason_42 : am_dec cX9_bendReason 42 [.aload_n 0, .iload_n 1, .iload_n 2] 45 = true := by decide +kernel
theorem kX9_bendReason_48 : am_dec cX9_bendReason 48 [.istore 5, .aload_n 0, .aload_n 0, .iload_n 1, .iload_n 2] 54 = true := by decide +kernel
theorem kX9_bendReason_57 : am_dec cX9_bendReason 57 [.aload_n 0, .iload_n 1, .iload_n 2] 60 = true := by decide +kernel
theorem kX9_bendReason_63 : am_dec cX9_bendReason 63 [.iload_n 3, .iload 4] 66 = true := by decide +kernel
theorem kX9_bendReason_69 : am_dec cX9_bendReason 69 [.istore 6, .iload 6] 73 = true := by decide +kernel
theorem kX9_bendReason_76 : am_dec cX9_bendReason 76 [.iload 6] 78 = true := by decide +kernel
theorem kX9_bendReason_81 : am_dec cX9_bendReason 81 [.aload_n 0, .aload_n 0, .iload_n 1, .iload 5] 86 = true := by decide +kernel
theorem kX9_bendReason_89 : am_dec cX9_bendReason 89 [.aload_n 0, .iload_n 1, .iload 5] 93 = true := by decide +kernel
theorem kX9_bendReason_96 : am_dec cX9_bendReason 96 [.iload_n 3, .iload 4] 99 = true := by decide +kernel
theorem eX9_bendReason_2 : decode cX9_bendReason 2 = .ok (.invokevirtual 42, 3) := by decide +kernel
theorem eX9_bendReason_5 : decode cX9_bendReason 5 = .ok (.ifCond .ne 5, 3) := by decide +kernel
theorem eX9_bendReason_9 : decode cX9_bendReason 9 = .ok (.ireturn, 1) := by decide +kernel
theorem eX9_bendReason_12 : decode cX9_bendReason 12 = .ok (.invokevirtual 39, 3) := by decide +kernel
theorem eX9_bendReason_17 : decode cX9_bendReason 17 = .ok (.if_icmp .ne 5, 3) := by decide +kernel
theorem eX9_bendReason_21 : decode cX9_bendReason 21 = .ok (.ireturn, 1) := by decide +kernel
theorem eX9_bendReason_26 : decode cX9_bendReason 26 = .ok (.invokevirtual 110, 3) := by decide +kernel
theorem eX9_bendReason_29 : decode cX9_bendReason 29 = .ok (.ifCond .eq 5, 3) := by decide +kernel
theorem eX9_bendReason_33 : decode cX9_bendReason 33 = .ok (.ireturn, 1) := by decide +kernel
theorem eX9_bendReason_39 : decode cX9_bendReason 39 = .ok (.invokevirtual 113, 3) := by decide +kernel
theorem eX9_bendReason_45 : decode cX9_bendReason 45 = .ok (.invokevirtual 84, 3) := by decide +kernel
theorem eX9_bendReason_54 : decode cX9_bendReason 54 = .ok (.invokevirtual 72, 3) := by decide +kernel
theorem eX9_bendReason_60 : decode cX9_bendReason 60 = .ok (.invokevirtual 75, 3) := by decide +kernel
theorem eX9_bendReason_66 : decode cX9_bendReason 66 = .ok (.invokevirtual 117, 3) := by decide +kernel
theorem eX9_bendReason_73 : decode cX9_bendReason 73 = .ok (.ifCond .le 8, 3) := by decide +kernel
theorem eX9_bendReason_78 : decode cX9_bendReason 78 = .ok (.goto 24, 3) := by decide +kernel
theorem eX9_bendReason_86 : decode cX9_bendReason 86 = .ok (.invokevirtual 72, 3) := by decide +kernel
theorem eX9_bendReason_93 : decode cX9_bendReason 93 = .ok (.invokevirtual 75, 3) := by decide +kernel
theorem eX9_bendReason_99 : decode cX9_bendReason 99 = .ok (.invokevirtual 117, 3) := by decide +kernel
theorem eX9_bendReason_102 : decode cX9_bendReason 102 = .ok (.ireturn, 1) := by decide +kernel
theorem kX9_outReason_0 : am_dec cX9_outReason 0 [.aload_n 0, .iload_n 1] 2 = true := by decide +kernel
theorem kX9_outReason_8 : am_dec cX9_outReason 8 [.iconst 1] 9 = true := by decide +kernel
theorem kX9_outReason_10 : am_dec cX9_outReason 10 [.aload_n 0, .iload_n 1] 12 = true := by decide +kernel
theorem kX9_outReason_15 : am_dec cX9_outReason 15 [.iconst 3] 16 = true := by decide +kernel
theorem kX9_outReason_19 : am_dec cX9_outReason 19 [.bipush 6] 21 = true := by decide +kernel
theorem kX9_outReason_22 : am_dec cX9_outReason 22 [.aload_n 0, .iload_n 1, .iload_n 2] 25 = true := by decide +kernel
theorem kX9_outReason_28 : am_dec cX9_outReason 28 [.istore_n 3, .aload_n 0, .iload_n 1, .iload_n 2] 32 = true := by decide +kernel
theorem kX9_outReason_35 : am_dec cX9_outReason 35 [.istore 4, .aload_n 0, .iload_n 1, .iload_n 3, .iload_n 2, .iload_n 2] 42 = true := by decide +kernel
theorem kX9_outReason_45 : am_dec cX9_outReason 45 [.aload_n 0, .aload_n 0, .iload_n 1, .iload_n 3] 49 = true := by decide +kernel
theorem kX9_outReason_52 : am_dec cX9_outReason 52 [.aload_n 0, .iload_n 1, .iload_n 3] 55 = true := by decide +kernel
theorem kX9_outReason_58 : am_dec cX9_outReason 58 [.aload_n 0, .iload_n 1, .iload 4] 62 = true := by decide +kernel
theorem kX9_outReason_65 : am_dec cX9_outReason 65 [.aload_n 0, .iload_n 1, .iload 4] 69 = true := by decide +kernel
theorem eX9_outReason_2 : decode cX9_outReason 2 = .ok (.invokevirtual 42, 3) := by decide +kernel
theorem eX9_outReason_5 : decode cX9_outReason 5 = .ok (.ifCond .ne 5, 3) := by decide +kernel
theorem eX9_outReason_9 : decode cX9_outReason 9 = .ok (.ireturn, 1) := by decide +kernel
theorem eX9_outReason_12 : decode cX9_outReason 12 = .ok (.invokevirtual 39, 3) := by decide +kernel
theorem eX9_outReason_16 : decode cX9_outReason 16 = .ok (.if_icmp .ne 6, 3) := by decide +kernel
theorem eX9_outReason_21 : decode cX9_outReason 21 = .ok (.ireturn, 1) := by decide +kernel
theorem eX9_outReason_25 : decode cX9_outReason 25 = .ok (.invokevirtual 121, 3) := by decide +kernel
theorem eX9_outReason_32 : decode cX9_outReason 32 = .ok (.invokevirtual 84, 3) := by decide +kernel
theorem eX9_outReason_42 : decode cX9_outReason 42 = .ok (.invokevirtual 113, 3) := by decide +kernel
theorem eX9_outReason_49 : decode cX9_outReason 49 = .ok (.invokevirtual 72, 3) := by decide +kernel
theorem eX9_outReason_55 : decode cX9_outReason 55 = .ok (.invokevirtual 75, 3) := by decide +kernel
theorem eX9_outReason_62 : decode cX9_outReason 62 = .ok (.invokevirtual 72, 3) := by decide +kernel
theorem eX9_outReason_69 : decode cX9_outReason 69 = .ok (.invokevirtual 75, 3) := by decide +kernel
theorem eX9_outReason_72 : decode cX9_outReason 72 = .ok (.invokevirtual 117, 3) := by decide +kernel
theorem eX9_outReason_75 : decode cX9_outReason 75 = .ok (.ireturn, 1) := by decide +kernel
theorem kX9_putCorner_0 : am_dec cX9_putCorner 0 [.iload_n 1] 1 = true := by decide +kernel
theorem kX9_putCorner_4 : am_dec cX9_putCorner 4 [.istore 5, .iconst 2, .aload_n 0, .iload_n 1] 9 = true := by decide +kernel
theorem kX9_putCorner_12 : am_dec cX9_putCorner 12 [.imul, .iconst 1, .isub, .istore 6] 17 = true := by decide +kernel
theorem kX9_putCorner_17 : am_dec cX9_putCorner 17 [.iload 6, .iconst 2, .iload_n 2, .imul] 22 = true := by decide +kernel
theorem kX9_putCorner_25 : am_dec cX9_putCorner 25 [.aload_n 0] 26 = true := by decide +kernel
theorem kX9_putCorner_29 : am_dec cX9_putCorner 29 [.iload 5, .iconst 3, .iadd, .iload 6, .iadd, .iconst 2, .iadd, .aload_n 0] 39 = true := by decide +kernel
theorem kX9_putCorner_42 : am_dec cX9_putCorner 42 [.iload 5, .iconst 3, .iadd, .iload 6, .iadd] 49 = true := by decide +kernel
theorem kX9_putCorner_51 : am_dec cX9_putCorner 51 [.iinc 6 (-1)] 54 = true := by decide +kernel
theorem kX9_putCorner_57 : am_dec cX9_putCorner 57 [.aload_n 0] 58 = true := by decide +kernel
theorem kX9_putCorner_61 : am_dec cX9_putCorner 61 [.iload 5, .iconst 3, .iadd, .iconst 2, .iload_n 2, .imul, .iadd, .iload_n 3] 70 = true := by decide +kernel
theorem kX9_putCorner_71 : am_dec cX9_putCorner 71 [.aload_n 0] 72 = true := by decide +kernel
theorem kX9_putCorner_75 : am_dec cX9_putCorner 75 [.iload 5, .iconst 3, .iadd, .iconst 2, .iload_n 2, .imul, .iadd, .iconst 1, .iadd, .iload 4] 87 = true := by decide +kernel
theorem kX9_putCorner_88 : am_dec cX9_putCorner 88 [.aload_n 0] 89 = true := by decide +kernel
theorem kX9_putCorner_92 : am_dec cX9_putCorner 92 [.iload 5, .iconst 1, .iadd, .dup2] 97 = true := by decide +kernel
theorem kX9_putCorner_98 : am_dec cX9_putCorner 98 [.iconst 1, .iadd] 100 = true := by decide +kernel
theorem eX9_putCorner_1 : decode cX9_putCorner 1 = .ok (.invokestatic 35, 3) := by decide +kernel
theorem eX9_putCorner_9 : decode cX9_putCorner 9 = .ok (.invokevirtual 39, 3) := by decide +kernel
theorem eX9_putCorner_22 : decode cX9_putCorner 22 = .ok (.if_icmp .lt 35, 3) := by decide +kernel
theorem eX9_putCorner_26 : decode cX9_putCorner 26 = .ok (.getfield 17, 3) := by decide +kernel
theorem eX9_putCorner_39 : decode cX9_putCorner 39 = .ok (.getfield 17, 3) := by decide +kernel
theorem eX9_putCorner_49 : decode cX9_putCorner 49 = .ok (.iaload, 1) := by decide +kernel
theorem eX9_putCorner_50 : decode cX9_putCorner 50 = .ok (.iastore, 1) := by decide +kernel
theorem eX9_putCorner_54 : decode cX9_putCorner 54 = .ok (.goto (-37), 3) := by decide +kernel
theorem eX9_putCorner_58 : decode cX9_putCorner 58 = .ok (.getfield 17, 3) := by decide +kernel
theorem eX9_putCorner_70 : decode cX9_putCorner 70 = .ok (.iastore, 1) := by decide +kernel
theorem eX9_putCorner_72 : decode cX9_putCorner 72 = .ok (.getfield 17, 3) := by decide +kernel
theorem eX9_putCorner_87 : decode cX9_putCorner 87 = .ok (.iastore, 1) := by decide +kernel
theorem eX9_putCorner_89 : decode cX9_putCorner 89 = .ok (.getfield 17, 3) := by decide +kernel
theorem eX9_putCorner_97 : decode cX9_putCorner 97 = .ok (.iaload, 1) := by decide +kernel
theorem eX9_putCorner_100 : decode cX9_putCorner 100 = .ok (.iastore, 1) := by decide +kernel
theorem eX9_putCorner_101 : decode cX9_putCorner 101 = .ok (.return_, 1) := by decide +kernel
theorem kX9_beginPolygon_0 : am_dec cX9_beginPolygon 0 [.aload_n 0] 1 = true := by decide +kernel
theorem kX9_beginPolygon_4 : am_dec cX9_beginPolygon 4 [.iconst 3] 5 = true := by decide +kernel
theorem kX9_beginPolygon_9 : am_dec cX9_beginPolygon 9 [.istore 4, .aload_n 0] 12 = true := by decide +kernel
theorem kX9_beginPolygon_15 : am_dec cX9_beginPolygon 15 [.iload 4, .iconst 0, .iadd, .iload_n 1] 20 = true := by decide +kernel
theorem kX9_beginPolygon_21 : am_dec cX9_beginPolygon 21 [.aload_n 0] 22 = true := by decide +kernel
theorem kX9_beginPolygon_25 : am_dec cX9_beginPolygon 25 [.iload 4, .iconst 1, .iadd, .iconst 0] 30 = true := by decide +kernel
theorem kX9_beginPolygon_31 : am_dec cX9_beginPolygon 31 [.aload_n 0] 32 = true := by decide +kernel
theorem kX9_beginPolygon_35 : am_dec cX9_beginPolygon 35 [.iload 4, .iconst 2, .iadd, .iconst 0] 40 = true := by decide +kernel
theorem kX9_beginPolygon_41 : am_dec cX9_beginPolygon 41 [.aload_n 0] 42 = true := by decide +kernel
theorem kX9_beginPolygon_45 : am_dec cX9_beginPolygon 45 [.iconst 3, .dup2] 47 = true := by decide +kernel
theorem kX9_beginPolygon_48 : am_dec cX9_beginPolygon 48 [.iconst 1, .iadd] 50 = true := by decide +kernel
theorem kX9_beginPolygon_51 : am_dec cX9_beginPolygon 51 [.aload_n 0, .aload_n 0] 53 = true := by decide +kernel
theorem kX9_beginPolygon_56 : am_dec cX9_beginPolygon 56 [.iconst 3] 57 = true := by decide +kernel
theorem kX9_beginPolygon_58 : am_dec cX9_beginPolygon 58 [.iconst 1, .isub, .iconst 0, .iload_n 2, .iload_n 3] 63 = true := by decide +kernel
theorem eX9_beginPolygon_1 : decode cX9_beginPolygon 1 = .ok (.getfield 17, 3) := by decide +kernel
theorem eX9_beginPolygon_5 : decode cX9_beginPolygon 5 = .ok (.iaload, 1) := by decide +kernel
theorem eX9_beginPolygon_6 : decode cX9_beginPolygon 6 = .ok (.invokestatic 35, 3) := by decide +kernel
theorem eX9_beginPolygon_12 : decode cX9_beginPolygon 12 = .ok (.getfield 17, 3) := by decide +kernel
theorem eX9_beginPolygon_20 : decode cX9_beginPolygon 20 = .ok (.iastore, 1) := by decide +kernel
theorem eX9_beginPolygon_22 : decode cX9_beginPolygon 22 = .ok (.getfield 17, 3) := by decide +kernel
theorem eX9_beginPolygon_30 : decode cX9_beginPolygon 30 = .ok (.iastore, 1) := by decide +kernel
theorem eX9_beginPolygon_32 : decode cX9_beginPolygon 32 = .ok (.getfield 17, 3) := by decide +kernel
theorem eX9_beginPolygon_40 : decode cX9_beginPolygon 40 = .ok (.iastore, 1) := by decide +kernel
theorem eX9_beginPolygon_42 : decode cX9_beginPolygon 42 = .ok (.getfield 17, 3) := by decide +kernel
theorem eX9_beginPolygon_47 : decode cX9_beginPolygon 47 = .ok (.iaload, 1) := by decide +kernel
theorem eX9_beginPolygon_50 : decode cX9_beginPolygon 50 = .ok (.iastore, 1) := by decide +kernel
theorem eX9_beginPolygon_53 : decode cX9_beginPolygon 53 = .ok (.getfield 17, 3) := by decide +kernel
theorem eX9_beginPolygon_57 : decode cX9_beginPolygon 57 = .ok (.iaload, 1) := by decide +kernel
theorem eX9_beginPolygon_63 : decode cX9_beginPolygon 63 = .ok (.invokevirtual 124, 3) := by decide +kernel
theorem eX9_beginPolygon_66 : decode cX9_beginPolygon 66 = .ok (.return_, 1) := by decide +kernel
theorem kX9_append_0 : am_dec cX9_append 0 [.aload_n 0, .iconst 0] 2 = true := by decide +kernel
theorem kX9_append_5 : am_dec cX9_append 5 [.aload_n 0] 6 = true := by decide +kernel
theorem kX9_append_9 : am_dec cX9_append 9 [.bipush 20, .iadd, .sipush 800] 15 = true := by decide +kernel
theorem kX9_append_18 : am_dec cX9_append 18 [.iconst (-1)] 19 = true := by decide +kernel
theorem kX9_append_20 : am_dec cX9_append 20 [.iconst 0, .istore 6] 23 = true := by decide +kernel
theorem kX9_append_23 : am_dec cX9_append 23 [.iload 6, .bipush 20] 27 = true := by decide +kernel
theorem kX9_append_30 : am_dec cX9_append 30 [.iload 6, .iconst 4] 33 = true := by decide +kernel
theorem kX9_append_36 : am_dec cX9_append 36 [.iload_n 1] 37 = true := by decide +kernel
theorem kX9_append_40 : am_dec cX9_append 40 [.iload 6, .bipush 8] 44 = true := by decide +kernel
theorem kX9_append_47 : am_dec cX9_append 47 [.iload_n 2] 48 = true := by decide +kernel
theorem kX9_append_51 : am_dec cX9_append 51 [.iload 6, .bipush 12] 55 = true := by decide +kernel
theorem kX9_append_58 : am_dec cX9_append 58 [.iload_n 3] 59 = true := by decide +kernel
theorem kX9_append_62 : am_dec cX9_append 62 [.iload 6, .bipush 16] 66 = true := by decide +kernel
theorem kX9_append_69 : am_dec cX9_append 69 [.iload 4] 71 = true := by decide +kernel
theorem kX9_append_74 : am_dec cX9_append 74 [.iload 5] 76 = true := by decide +kernel
theorem kX9_append_76 : am_dec cX9_append 76 [.istore 7, .aload_n 0] 79 = true := by decide +kernel
theorem kX9_append_82 : am_dec cX9_append 82 [.aload_n 0] 83 = true := by decide +kernel
theorem kX9_append_86 : am_dec cX9_append 86 [.iload 7, .bipush 24, .bipush 8, .iload 6, .iconst 4] 95 = true := by decide +kernel
theorem kX9_append_96 : am_dec cX9_append 96 [.imul, .isub] 98 = true := by decide +kernel
theorem kX9_append_99 : am_dec cX9_append 99 [.sipush 255] 102 = true := by decide +kernel
theorem kX9_append_104 : am_dec cX9_append 104 [.aload_n 0, .dup] 106 = true := by decide +kernel
theorem kX9_append_109 : am_dec cX9_append 109 [.iconst 1, .iadd] 111 = true := by decide +kernel
theorem kX9_append_114 : am_dec cX9_append 114 [.iinc 6 1] 117 = true := by decide +kernel
theorem kX9_append_120 : am_dec cX9_append 120 [.aload_n 0] 121 = true := by decide +kernel
theorem eX9_append_2 : decode cX9_append 2 = .ok (.putfield 32, 3) := by decide +kernel
theorem eX9_append_6 : decode cX9_append 6 = .ok (.getfield 127, 3) := by decide +kernel
theorem eX9_append_15 : decode cX9_append 15 = .ok (.if_icmp .le 5, 3) := by decide +kernel
theorem eX9_append_19 : decode cX9_append 19 = .ok (.ireturn, 1) := by decide +kernel
theorem eX9_append_27 : decode cX9_append 27 = .ok (.if_icmp .ge 93, 3) := by decide +kernel
theorem eX9_append_33 : decode cX9_append 33 = .ok (.if_icmp .ge 7, 3) := by decide +kernel
theorem eX9_append_37 : decode cX9_append 37 = .ok (.goto 39, 3) := by decide +kernel
theorem eX9_append_44 : decode cX9_append 44 = .ok (.if_icmp .ge 7, 3) := by decide +kernel
theorem eX9_append_48 : decode cX9_append 48 = .ok (.goto 28, 3) := by decide +kernel
theorem eX9_append_55 : decode cX9_append 55 = .ok (.if_icmp .ge 7, 3) := by decide +kernel
theorem eX9_append_59 : decode cX9_append 59 = .ok (.goto 17, 3) := by decide +kernel
theorem eX9_append_66 : decode cX9_append 66 = .ok (.if_icmp .ge 8, 3) := by decide +kernel
theorem eX9_append_71 : decode cX9_append 71 = .ok (.goto 5, 3) := by decide +kernel
theorem eX9_append_79 : decode cX9_append 79 = .ok (.getfield 9, 3) := by decide +kernel
theorem eX9_append_83 : decode cX9_append 83 = .ok (.getfield 127, 3) := by decide +kernel
theorem eX9_append_95 : decode cX9_append 95 = .ok (.irem, 1) := by decide +kernel
theorem eX9_append_98 : decode cX9_append 98 = .ok (.ishr, 1) := by decide +kernel
theorem eX9_append_102 : decode cX9_append 102 = .ok (.iand, 1) := by decide +kernel
theorem eX9_append_103 : decode cX9_append 103 = .ok (.iastore, 1) := by decide +kernel
theorem eX9_append_106 : decode cX9_append 106 = .ok (.getfield 127, 3) := by decide +kernel
theorem eX9_append_111 : decode cX9_append 111 = .ok (.putfield 127, 3) := by decide +kernel
theorem eX9_append_117 : decode cX9_append 117 = .ok (.goto (-94), 3) := by decide +kernel
theorem eX9_append_121 : decode cX9_append 121 = .ok (.getfield 127, 3) := by decide +kernel
theorem eX9_append_124 : decode cX9_append 124 = .ok (.ireturn, 1) := by decide +kernel
theorem kX9_byteAt_0 : am_dec cX9_byteAt 0 [.iload_n 1, .aload_n 0] 2 = true := by decide +kernel
theorem kX9_byteAt_8 : am_dec cX9_byteAt 8 [.aload_n 0] 9 = true := by decide +kernel
theorem kX9_byteAt_12 : am_dec cX9_byteAt 12 [.iload_n 1] 13 = true := by decide +kernel
theorem kX9_byteAt_17 : am_dec cX9_byteAt 17 [.iconst (-1)] 18 = true := by decide +kernel
theorem eX9_byteAt_2 : decode cX9_byteAt 2 = .ok (.getfield 130, 3) := by decide +kernel
theorem eX9_byteAt_5 : decode cX9_byteAt 5 = .ok (.if_icmp .ge 12, 3) := by decide +kernel
theorem eX9_byteAt_9 : decode cX9_byteAt 9 = .ok (.getfield 9, 3) := by decide +kernel
theorem eX9_byteAt_13 : decode cX9_byteAt 13 = .ok (.iaload, 1) := by decide +kernel
theorem eX9_byteAt_14 : decode cX9_byteAt 14 = .ok (.goto 4, 3) := by decide +kernel
theorem eX9_byteAt_18 : decode cX9_byteAt 18 = .ok (.ireturn, 1) := by decide +kernel
theorem kX9_next_0 : am_dec cX9_next 0 [.aload_n 0, .aload_n 0] 2 = true := by decide +kernel
theorem kX9_next_8 : am_dec cX9_next 8 [.bipush 32] 10 = true := by decide +kernel
theorem kX9_next_13 : am_dec cX9_next 13 [.aload_n 0, .dup] 15 = true := by decide +kernel
theorem kX9_next_18 : am_dec cX9_next 18 [.iconst 1, .iadd] 20 = true := by decide +kernel
theorem kX9_next_26 : am_dec cX9_next 26 [.aload_n 0, .aload_n 0] 28 = true := by decide +kernel
theorem eX9_next_2 : decode cX9_next 2 = .ok (.getfield 133, 3) := by decide +kernel
theorem eX9_next_5 : decode cX9_next 5 = .ok (.invokevirtual 136, 3) := by decide +kernel
theorem eX9_next_10 : decode cX9_next 10 = .ok (.if_icmp .ne 16, 3) := by decide +kernel
theorem eX9_next_15 : decode cX9_next 15 = .ok (.getfield 133, 3) := by decide +kernel
theorem eX9_next_20 : decode cX9_next 20 = .ok (.putfield 133, 3) := by decide +kernel
theorem eX9_next_23 : decode cX9_next 23 = .ok (.goto (-23), 3) := by decide +kernel
theorem eX9_next_28 : decode cX9_next 28 = .ok (.getfield 133, 3) := by decide +kernel
theorem eX9_next_31 : decode cX9_next 31 = .ok (.invokevirtual 136, 3) := by decide +kernel
theorem eX9_next_34 : decode cX9_next 34 = .ok (.ireturn, 1) := by decide +kernel
theorem kX9_isGood_0 : am_dec cX9_isGood 0 [.aload_n 0] 1 = true := by decide +kernel
theorem kX9_isGood_7 : am_dec cX9_isGood 7 [.iconst 1] 8 = true := by decide +kernel
theorem kX9_isGood_11 : am_dec cX9_isGood 11 [.iconst 0] 12 = true := by decide +kernel
theorem eX9_isGood_1 : decode cX9_isGood 1 = .ok (.getfield 139, 3) := by decide +kernel
theorem eX9_isGood_4 : decode cX9_isGood 4 = .ok (.ifCond .ne 7, 3) := by decide +kernel
theorem eX9_isGood_8 : decode cX9_isGood 8 = .ok (.goto 4, 3) := by decide +kernel
theorem eX9_isGood_12 : decode cX9_isGood 12 = .ok (.ireturn, 1) := by decide +kernel
theorem kX9_report_0 : am_dec cX9_report 0 [.aload_n 0] 1 = true := by decide +kernel
theorem kX9_report_8 : am_dec cX9_report 8 [.aload_n 0, .iload_n 1] 10 = true := by decide +kernel
theorem kX9_report_13 : am_dec cX9_report 13 [.aload_n 0, .iload_n 2] 15 = true := by decide +kernel
theorem eX9_report_1 : decode cX9_report 1 = .ok (.getfield 139, 3) := by decide +kernel
theorem eX9_report_4 : decode cX9_report 4 = .ok (.ifCond .eq 4, 3) := by decide +kernel
theorem eX9_report_7 : decode cX9_report 7 = .ok (.return_, 1) := by decide +kernel
theorem eX9_report_10 : decode cX9_report 10 = .ok (.putfield 139, 3) := by decide +kernel
theorem eX9_report_15 : decode cX9_report 15 = .ok (.putfield 142, 3) := by decide +kernel
theorem eX9_report_18 : decode cX9_report 18 = .ok (.return_, 1) := by decide +kernel
theorem kX9_isDigit_0 : am_dec cX9_isDigit 0 [.iload_n 0, .bipush 48, .bipush 57] 5 = true := by decide +kernel
theorem eX9_isDigit_5 : decode cX9_isDigit 5 = .ok (.invokestatic 57, 3) := by decide +kernel
theorem eX9_isDigit_8 : decode cX9_isDigit 8 = .ok (.ireturn, 1) := by decide +kernel
theorem kX9_takeWord_0 : am_dec cX9_takeWord 0 [.aload_n 0] 1 = true := by decide +kernel
theorem kX9_takeWord_7 : am_dec cX9_takeWord 7 [.iconst 0] 8 = true := by decide +kernel
theorem kX9_takeWord_9 : am_dec cX9_takeWord 9 [.aload_n 0] 10 = true := by decide +kernel
theorem kX9_takeWord_13 : am_dec cX9_takeWord 13 [.pop, .iconst 0, .istore_n 2] 16 = true := by decide +kernel
theorem kX9_takeWord_16 : am_dec cX9_takeWord 16 [.iload_n 2, .aload_n 1] 18 = true := by decide +kernel
theorem kX9_takeWord_24 : am_dec cX9_takeWord 24 [.aload_n 0, .aload_n 0] 26 = true := by decide +kernel
theorem kX9_takeWord_29 : am_dec cX9_takeWord 29 [.iload_n 2, .iadd] 31 = true := by decide +kernel
theorem kX9_takeWord_34 : am_dec cX9_takeWord 34 [.aload_n 1, .iload_n 2] 36 = true := by decide +kernel
theorem kX9_takeWord_42 : am_dec cX9_takeWord 42 [.iinc 2 1] 45 = true := by decide +kernel
theorem kX9_takeWord_48 : am_dec cX9_takeWord 48 [.iload_n 2, .aload_n 1] 50 = true := by decide +kernel
theorem kX9_takeWord_56 : am_dec cX9_takeWord 56 [.aload_n 0, .aload_n 0] 58 = true := by decide +kernel
theorem kX9_takeWord_61 : am_dec cX9_takeWord 61 [.iload_n 2, .iadd] 63 = true := by decide +kernel
theorem kX9_takeWord_66 : am_dec cX9_takeWord 66 [.bipush 97, .bipush 122] 70 = true := by decide +kernel
theorem kX9_takeWord_76 : am_dec cX9_takeWord 76 [.iconst 0] 77 = true := by decide +kernel
theorem kX9_takeWord_78 : am_dec cX9_takeWord 78 [.aload_n 0, .dup] 80 = true := by decide +kernel
theorem kX9_takeWord_83 : am_dec cX9_takeWord 83 [.iload_n 2, .iadd] 85 = true := by decide +kernel
theorem kX9_takeWord_88 : am_dec cX9_takeWord 88 [.iconst 1] 89 = true := by decide +kernel
theorem eX9_takeWord_1 : decode cX9_takeWord 1 = .ok (.invokevirtual 145, 3) := by decide +kernel
theorem eX9_takeWord_4 : decode cX9_takeWord 4 = .ok (.ifCond .ne 5, 3) := by decide +kernel
theorem eX9_takeWord_8 : decode cX9_takeWord 8 = .ok (.ireturn, 1) := by decide +kernel
theorem eX9_takeWord_10 : decode cX9_takeWord 10 = .ok (.invokevirtual 149, 3) := by decide +kernel
theorem eX9_takeWord_18 : decode cX9_takeWord 18 = .ok (.invokevirtual 153, 3) := by decide +kernel
theorem eX9_takeWord_21 : decode cX9_takeWord 21 = .ok (.if_icmp .ge 27, 3) := by decide +kernel
theorem eX9_takeWord_26 : decode cX9_takeWord 26 = .ok (.getfield 133, 3) := by decide +kernel
theorem eX9_takeWord_31 : decode cX9_takeWord 31 = .ok (.invokevirtual 136, 3) := by decide +kernel
theorem eX9_takeWord_36 : decode cX9_takeWord 36 = .ok (.invokevirtual 158, 3) := by decide +kernel
theorem eX9_takeWord_39 : decode cX9_takeWord 39 = .ok (.if_icmp .ne 9, 3) := by decide +kernel
theorem eX9_takeWord_45 : decode cX9_takeWord 45 = .ok (.goto (-29), 3) := by decide +kernel
theorem eX9_takeWord_50 : decode cX9_takeWord 50 = .ok (.invokevirtual 153, 3) := by decide +kernel
theorem eX9_takeWord_53 : decode cX9_takeWord 53 = .ok (.if_icmp .lt 23, 3) := by decide +kernel
theorem eX9_takeWord_58 : decode cX9_takeWord 58 = .ok (.getfield 133, 3) := by decide +kernel
theorem eX9_takeWord_63 : decode cX9_takeWord 63 = .ok (.invokevirtual 136, 3) := by decide +kernel
theorem eX9_takeWord_70 : decode cX9_takeWord 70 = .ok (.invokestatic 57, 3) := by decide +kernel
theorem eX9_takeWord_73 : decode cX9_takeWord 73 = .ok (.ifCond .eq 5, 3) := by decide +kernel
theorem eX9_takeWord_77 : decode cX9_takeWord 77 = .ok (.ireturn, 1) := by decide +kernel
theorem eX9_takeWord_80 : decode cX9_takeWord 80 = .ok (.getfield 133, 3) := by decide +kernel
theorem eX9_takeWord_85 : decode cX9_takeWord 85 = .ok (.putfield 133, 3) := by decide +kernel
theorem eX9_takeWord_89 : decode cX9_takeWord 89 = .ok (.ireturn, 1) := by decide +kernel
theorem kX9_expect_0 : am_dec cX9_expect 0 [.aload_n 0] 1 = true := by decide +kernel
theorem kX9_expect_8 : am_dec cX9_expect 8 [.aload_n 0] 9 = true := by decide +kernel
theorem kX9_expect_12 : am_dec cX9_expect 12 [.iload_n 1] 13 = true := by decide +kernel
theorem kX9_expect_16 : am_dec cX9_expect 16 [.aload_n 0, .dup] 18 = true := by decide +kernel
theorem kX9_expect_21 : am_dec cX9_expect 21 [.iconst 1, .iadd] 23 = true := by decide +kernel
theorem kX9_expect_29 : am_dec cX9_expect 29 [.aload_n 0, .bipush (-2), .aload_n 0] 33 = true := by decide +kernel
theorem eX9_expect_1 : decode cX9_expect 1 = .ok (.invokevirtual 145, 3) := by decide +kernel
theorem eX9_expect_4 : decode cX9_expect 4 = .ok (.ifCond .ne 4, 3) := by decide +kernel
theorem eX9_expect_7 : decode cX9_expect 7 = .ok (.return_, 1) := by decide +kernel
theorem eX9_expect_9 : decode cX9_expect 9 = .ok (.invokevirtual 149, 3) := by decide +kernel
theorem eX9_expect_13 : decode cX9_expect 13 = .ok (.if_icmp .ne 16, 3) := by decide +kernel
theorem eX9_expect_18 : decode cX9_expect 18 = .ok (.getfield 133, 3) := by decide +kernel
theorem eX9_expect_23 : decode cX9_expect 23 = .ok (.putfield 133, 3) := by decide +kernel
theorem eX9_expect_26 : decode cX9_expect 26 = .ok (.goto 13, 3) := by decide +kernel
theorem eX9_expect_33 : decode cX9_expect 33 = .ok (.getfield 133, 3) := by decide +kernel
theorem eX9_expect_36 : decode cX9_expect 36 = .ok (.invokevirtual 162, 3) := by decide +kernel
theorem eX9_expect_39 : decode cX9_expect 39 = .ok (.return_, 1) := by decide +kernel
theorem kX9_number_0 : am_dec cX9_number 0 [.aload_n 0] 1 = true := by decide +kernel
theorem kX9_number_7 : am_dec cX9_number 7 [.iconst 0] 8 = true := by decide +kernel
theorem kX9_number_9 : am_dec cX9_number 9 [.aload_n 0] 10 = true := by decide +kernel
theorem kX9_number_19 : am_dec cX9_number 19 [.aload_n 0, .bipush (-2), .aload_n 0] 23 = true := by decide +kernel
theorem kX9_number_29 : am_dec cX9_number 29 [.iconst 0] 30 = true := by decide +kernel
theorem kX9_number_31 : am_dec cX9_number 31 [.aload_n 0, .aload_n 0] 33 = true := by decide +kernel
theorem kX9_number_39 : am_dec cX9_number 39 [.iconst 0, .istore_n 3] 41 = true := by decide +kernel
theorem kX9_number_41 : am_dec cX9_number 41 [.aload_n 0, .aload_n 0] 43 = true := by decide +kernel
theorem kX9_number_57 : am_dec cX9_number 57 [.bipush 10, .iload_n 3, .imul, .aload_n 0, .aload_n 0] 63 = true := by decide +kernel
theorem kX9_number_69 : am_dec cX9_number 69 [.iadd, .bipush 48, .isub] 73 = true := by decide +kernel
theorem kX9_number_76 : am_dec cX9_number 76 [.istore_n 3, .aload_n 0, .dup] 79 = true := by decide +kernel
theorem kX9_number_82 : am_dec cX9_number 82 [.iconst 1, .iadd] 84 = true := by decide +kernel
theorem kX9_number_90 : am_dec cX9_number 90 [.iload_n 3, .iload_n 1, .iload_n 2] 93 = true := by decide +kernel
theorem kX9_number_99 : am_dec cX9_number 99 [.aload_n 0, .bipush (-3), .aload_n 0] 103 = true := by decide +kernel
theorem kX9_number_109 : am_dec cX9_number 109 [.iload_n 3] 110 = true := by decide +kernel
theorem eX9_number_1 : decode cX9_number 1 = .ok (.invokevirtual 145, 3) := by decide +kernel
theorem eX9_number_4 : decode cX9_number 4 = .ok (.ifCond .ne 5, 3) := by decide +kernel
theorem eX9_number_8 : decode cX9_number 8 = .ok (.ireturn, 1) := by decide +kernel
theorem eX9_number_10 : decode cX9_number 10 = .ok (.invokevirtual 149, 3) := by decide +kernel
theorem eX9_number_13 : decode cX9_number 13 = .ok (.invokestatic 166, 3) := by decide +kernel
theorem eX9_number_16 : decode cX9_number 16 = .ok (.ifCond .ne 15, 3) := by decide +kernel
theorem eX9_number_23 : decode cX9_number 23 = .ok (.getfield 133, 3) := by decide +kernel
theorem eX9_number_26 : decode cX9_number 26 = .ok (.invokevirtual 162, 3) := by decide +kernel
theorem eX9_number_30 : decode cX9_number 30 = .ok (.ireturn, 1) := by decide +kernel
theorem eX9_number_33 : decode cX9_number 33 = .ok (.getfield 133, 3) := by decide +kernel
theorem eX9_number_36 : decode cX9_number 36 = .ok (.putfield 169, 3) := by decide +kernel
theorem eX9_number_43 : decode cX9_number 43 = .ok (.getfield 133, 3) := by decide +kernel
theorem eX9_number_46 : decode cX9_number 46 = .ok (.invokevirtual 136, 3) := by decide +kernel
theorem eX9_number_49 : decode cX9_number 49 = .ok (.invokestatic 166, 3) := by decide +kernel
theorem eX9_number_52 : decode cX9_number 52 = .ok (.ifCond .eq 38, 3) := by decide +kernel
theorem eX9_number_55 : decode cX9_number 55 = .ok (.ldc 172, 2) := by decide +kernel
theorem eX9_number_63 : decode cX9_number 63 = .ok (.getfield 133, 3) := by decide +kernel
theorem eX9_number_66 : decode cX9_number 66 = .ok (.invokevirtual 136, 3) := by decide +kernel
theorem eX9_number_73 : decode cX9_number 73 = .ok (.invokestatic 50, 3) := by decide +kernel
theorem eX9_number_79 : decode cX9_number 79 = .ok (.getfield 133, 3) := by decide +kernel
theorem eX9_number_84 : decode cX9_number 84 = .ok (.putfield 133, 3) := by decide +kernel
theorem eX9_number_87 : decode cX9_number 87 = .ok (.goto (-46), 3) := by decide +kernel
theorem eX9_number_93 : decode cX9_number 93 = .ok (.invokestatic 57, 3) := by decide +kernel
theorem eX9_number_96 : decode cX9_number 96 = .ok (.ifCond .ne 13, 3) := by decide +kernel
theorem eX9_number_103 : decode cX9_number 103 = .ok (.getfield 169, 3) := by decide +kernel
theorem eX9_number_106 : decode cX9_number 106 = .ok (.invokevirtual 162, 3) := by decide +kernel
theorem eX9_number_110 : decode cX9_number 110 = .ok (.ireturn, 1) := by decide +kernel
theorem kX9_emit_0 : am_dec cX9_emit 0 [.aload_n 0] 1 = true := by decide +kernel
theorem kX9_emit_8 : am_dec cX9_emit 8 [.aload_n 0] 9 = true := by decide +kernel
theorem kX9_emit_12 : am_dec cX9_emit 12 [.sipush 228, .aload_n 0] 16 = true := by decide +kernel
theorem kX9_emit_19 : am_dec cX9_emit 19 [.iconst 5] 20 = true := by decide +kernel
theorem kX9_emit_21 : am_dec cX9_emit 21 [.iadd, .iload_n 1] 23 = true := by decide +kernel
theorem kX9_emit_24 : am_dec cX9_emit 24 [.aload_n 0] 25 = true := by decide +kernel
theorem kX9_emit_28 : am_dec cX9_emit 28 [.iconst 5, .dup2] 30 = true := by decide +kernel
theorem kX9_emit_31 : am_dec cX9_emit 31 [.iconst 1, .iadd] 33 = true := by decide +kernel
theorem eX9_emit_1 : decode cX9_emit 1 = .ok (.invokevirtual 145, 3) := by decide +kernel
theorem eX9_emit_4 : decode cX9_emit 4 = .ok (.ifCond .ne 4, 3) := by decide +kernel
theorem eX9_emit_7 : decode cX9_emit 7 = .ok (.return_, 1) := by decide +kernel
theorem eX9_emit_9 : decode cX9_emit 9 = .ok (.getfield 17, 3) := by decide +kernel
theorem eX9_emit_16 : decode cX9_emit 16 = .ok (.getfield 17, 3) := by decide +kernel
theorem eX9_emit_20 : decode cX9_emit 20 = .ok (.iaload, 1) := by decide +kernel
theorem eX9_emit_23 : decode cX9_emit 23 = .ok (.iastore, 1) := by decide +kernel
theorem eX9_emit_25 : decode cX9_emit 25 = .ok (.getfield 17, 3) := by decide +kernel
theorem eX9_emit_30 : decode cX9_emit 30 = .ok (.iaload, 1) := by decide +kernel
theorem eX9_emit_33 : decode cX9_emit 33 = .ok (.iastore, 1) := by decide +kernel
theorem eX9_emit_34 : decode cX9_emit 34 = .ok (.return_, 1) := by decide +kernel
theorem kX9_factor_0 : am_dec cX9_factor 0 [.aload_n 0] 1 = true := by decide +kernel
theorem kX9_factor_8 : am_dec cX9_factor 8 [.aload_n 0] 9 = true := by decide +kernel
theorem kX9_factor_12 : am_dec cX9_factor 12 [.istore_n 1, .iload_n 1, .bipush 40] 16 = true := by decide +kernel
theorem kX9_factor_19 : am_dec cX9_factor 19 [.aload_n 0] 20 = true := by decide +kernel
theorem kX9_factor_23 : am_dec cX9_factor 23 [.iconst 4] 24 = true := by decide +kernel
theorem kX9_factor_27 : am_dec cX9_factor 27 [.aload_n 0, .bipush (-6), .aload_n 0] 31 = true := by decide +kernel
theorem kX9_factor_37 : am_dec cX9_factor 37 [.aload_n 0, .dup] 39 = true := by decide +kernel
theorem kX9_factor_42 : am_dec cX9_factor 42 [.iconst 1, .iadd] 44 = true := by decide +kernel
theorem kX9_factor_47 : am_dec cX9_factor 47 [.aload_n 0, .dup] 49 = true := by decide +kernel
theorem kX9_factor_52 : am_dec cX9_factor 52 [.iconst 1, .iadd] 54 = true := by decide +kernel
theorem kX9_factor_57 : am_dec cX9_factor 57 [.aload_n 0] 58 = true := by decide +kernel
theorem kX9_factor_61 : am_dec cX9_factor 61 [.aload_n 0, .bipush 41] 64 = true := by decide +kernel
theorem kX9_factor_67 : am_dec cX9_factor 67 [.aload_n 0, .dup] 69 = true := by decide +kernel
theorem kX9_factor_72 : am_dec cX9_factor 72 [.iconst 1, .isub] 74 = true := by decide +kernel
theorem kX9_factor_78 : am_dec cX9_factor 78 [.iload_n 1] 79 = true := by decide +kernel
theorem kX9_factor_85 : am_dec cX9_factor 85 [.iconst (-1)] 86 = true := by decide +kernel
theorem kX9_factor_89 : am_dec cX9_factor 89 [.aload_n 0] 90 = true := by decide +kernel
theorem kX9_factor_98 : am_dec cX9_factor 98 [.iconst 0] 99 = true := by decide +kernel
theorem kX9_factor_102 : am_dec cX9_factor 102 [.aload_n 0] 103 = true := by decide +kernel
theorem kX9_factor_111 : am_dec cX9_factor 111 [.iconst 1] 112 = true := by decide +kernel
theorem kX9_factor_115 : am_dec cX9_factor 115 [.aload_n 0] 116 = true := by decide +kernel
theorem kX9_factor_124 : am_dec cX9_factor 124 [.iconst 2] 125 = true := by decide +kernel
theorem kX9_factor_128 : am_dec cX9_factor 128 [.aload_n 0] 129 = true := by decide +kernel
theorem kX9_factor_137 : am_dec cX9_factor 137 [.iconst 3] 138 = true := by decide +kernel
theorem kX9_factor_141 : am_dec cX9_factor 141 [.aload_n 0] 142 = true := by decide +kernel
theorem kX9_factor_150 : am_dec cX9_factor 150 [.iconst 4] 151 = true := by decide +kernel
theorem kX9_factor_154 : am_dec cX9_factor 154 [.iconst (-1)] 155 = true := by decide +kernel
theorem kX9_factor_155 : am_dec cX9_factor 155 [.istore_n 2, .iload_n 2] 157 = true := by decide +kernel
theorem kX9_factor_160 : am_dec cX9_factor 160 [.aload_n 0, .iconst 0, .sipush 9999] 165 = true := by decide +kernel
theorem kX9_factor_171 : am_dec cX9_factor 171 [.iload_n 2] 172 = true := by decide +kernel
theorem kX9_factor_172 : am_dec cX9_factor 172 [.istore_n 3, .aload_n 0, .iload_n 2] 175 = true := by decide +kernel
theorem kX9_factor_178 : am_dec cX9_factor 178 [.iconst 0] 179 = true := by decide +kernel
theorem kX9_factor_182 : am_dec cX9_factor 182 [.iconst 1] 183 = true := by decide +kernel
theorem kX9_factor_186 : am_dec cX9_factor 186 [.aload_n 0, .iload_n 3] 188 = true := by decide +kernel
theorem eX9_factor_1 : decode cX9_factor 1 = .ok (.invokevirtual 145, 3) := by decide +kernel
theorem eX9_factor_4 : decode cX9_factor 4 = .ok (.ifCond .ne 4, 3) := by decide +kernel
theorem eX9_factor_7 : decode cX9_factor 7 = .ok (.return_, 1) := by decide +kernel
theorem eX9_factor_9 : decode cX9_factor 9 = .ok (.invokevirtual 149, 3) := by decide +kernel
theorem eX9_factor_16 : decode cX9_factor 16 = .ok (.if_icmp .ne 62, 3) := by decide +kernel
theorem eX9_factor_20 : decode cX9_factor 20 = .ok (.getfield 173, 3) := by decide +kernel
theorem eX9_factor_24 : decode cX9_factor 24 = .ok (.if_icmp .ne 13, 3) := by decide +kernel
theorem eX9_factor_31 : decode cX9_factor 31 = .ok (.getfield 133, 3) := by decide +kernel
theorem eX9_factor_34 : decode cX9_factor 34 = .ok (.invokevirtual 162, 3) := by decide +kernel
theorem eX9_factor_39 : decode cX9_factor 39 = .ok (.getfield 133, 3) := by decide +kernel
theorem eX9_factor_44 : decode cX9_factor 44 = .ok (.putfield 133, 3) := by decide +kernel
theorem eX9_factor_49 : decode cX9_factor 49 = .ok (.getfield 173, 3) := by decide +kernel
theorem eX9_factor_54 : decode cX9_factor 54 = .ok (.putfield 173, 3) := by decide +kernel
theorem eX9_factor_58 : decode cX9_factor 58 = .ok (.invokevirtual 176, 3) := by decide +kernel
theorem eX9_factor_64 : decode cX9_factor 64 = .ok (.invokevirtual 179, 3) := by decide +kernel
theorem eX9_factor_69 : decode cX9_factor 69 = .ok (.getfield 173, 3) := by decide +kernel
theorem eX9_factor_74 : decode cX9_factor 74 = .ok (.putfield 173, 3) := by decide +kernel
theorem eX9_factor_77 : decode cX9_factor 77 = .ok (.return_, 1) := by decide +kernel
theorem eX9_factor_79 : decode cX9_factor 79 = .ok (.invokestatic 166, 3) := by decide +kernel
theorem eX9_factor_82 : decode cX9_factor 82 = .ok (.ifCond .eq 7, 3) := by decide +kernel
theorem eX9_factor_86 : decode cX9_factor 86 = .ok (.goto 69, 3) := by decide +kernel
theorem eX9_factor_90 : decode cX9_factor 90 = .ok (.ldc 183, 2) := by decide +kernel
theorem eX9_factor_92 : decode cX9_factor 92 = .ok (.invokevirtual 185, 3) := by decide +kernel
theorem eX9_factor_95 : decode cX9_factor 95 = .ok (.ifCond .eq 7, 3) := by decide +kernel
theorem eX9_factor_99 : decode cX9_factor 99 = .ok (.goto 56, 3) := by decide +kernel
theorem eX9_factor_103 : decode cX9_factor 103 = .ok (.ldc 189, 2) := by decide +kernel
theorem eX9_factor_105 : decode cX9_factor 105 = .ok (.invokevirtual 185, 3) := by decide +kernel
theorem eX9_factor_108 : decode cX9_factor 108 = .ok (.ifCond .eq 7, 3) := by decide +kernel
theorem eX9_factor_112 : decode cX9_factor 112 = .ok (.goto 43, 3) := by decide +kernel
theorem eX9_factor_116 : decode cX9_factor 116 = .ok (.ldc 191, 2) := by decide +kernel
theorem eX9_factor_118 : decode cX9_factor 118 = .ok (.invokevirtual 185, 3) := by decide +kernel
theorem eX9_factor_121 : decode cX9_factor 121 = .ok (.ifCond .eq 7, 3) := by decide +kernel
theorem eX9_factor_125 : decode cX9_factor 125 = .ok (.goto 30, 3) := by decide +kernel
theorem eX9_factor_129 : decode cX9_factor 129 = .ok (.ldc 193, 2) := by decide +kernel
theorem eX9_factor_131 : decode cX9_factor 131 = .ok (.invokevirtual 185, 3) := by decide +kernel
theorem eX9_factor_134 : decode cX9_factor 134 = .ok (.ifCond .eq 7, 3) := by decide +kernel
theorem eX9_factor_138 : decode cX9_factor 138 = .ok (.goto 17, 3) := by decide +kernel
theorem eX9_factor_142 : decode cX9_factor 142 = .ok (.ldc 195, 2) := by decide +kernel
theorem eX9_factor_144 : decode cX9_factor 144 = .ok (.invokevirtual 185, 3) := by decide +kernel
theorem eX9_factor_147 : decode cX9_factor 147 = .ok (.ifCond .eq 7, 3) := by decide +kernel
theorem eX9_factor_151 : decode cX9_factor 151 = .ok (.goto 4, 3) := by decide +kernel
theorem eX9_factor_157 : decode cX9_factor 157 = .ok (.ifCond .ge 14, 3) := by decide +kernel
theorem eX9_factor_165 : decode cX9_factor 165 = .ok (.invokevirtual 197, 3) := by decide +kernel
theorem eX9_factor_168 : decode cX9_factor 168 = .ok (.goto 4, 3) := by decide +kernel
theorem eX9_factor_175 : decode cX9_factor 175 = .ok (.ifCond .ge 7, 3) := by decide +kernel
theorem eX9_factor_179 : decode cX9_factor 179 = .ok (.goto 4, 3) := by decide +kernel
theorem eX9_factor_183 : decode cX9_factor 183 = .ok (.invokevirtual 200, 3) := by decide +kernel
theorem eX9_factor_188 : decode cX9_factor 188 = .ok (.invokevirtual 200, 3) := by decide +kernel
theorem eX9_factor_191 : decode cX9_factor 191 = .ok (.return_, 1) := by decide +kernel
theorem kX9_term_0 : am_dec cX9_term 0 [.aload_n 0] 1 = true := by decide +kernel
theorem kX9_term_4 : am_dec cX9_term 4 [.aload_n 0] 5 = true := by decide +kernel
theorem kX9_term_11 : am_dec cX9_term 11 [.aload_n 0] 12 = true := by decide +kernel
theorem kX9_term_15 : am_dec cX9_term 15 [.bipush 42] 17 = true := by decide +kernel
theorem kX9_term_20 : am_dec cX9_term 20 [.aload_n 0] 21 = true := by decide +kernel
theorem kX9_term_24 : am_dec cX9_term 24 [.bipush 47] 26 = true := by decide +kernel
theorem kX9_term_29 : am_dec cX9_term 29 [.aload_n 0] 30 = true := by decide +kernel
theorem kX9_term_33 : am_dec cX9_term 33 [.bipush 42] 35 = true := by decide +kernel
theorem kX9_term_38 : am_dec cX9_term 38 [.iconst 1] 39 = true := by decide +kernel
theorem kX9_term_42 : am_dec cX9_term 42 [.iconst 0] 43 = true := by decide +kernel
theorem kX9_term_43 : am_dec cX9_term 43 [.istore_n 1, .aload_n 0, .dup] 46 = true := by decide +kernel
theorem kX9_term_49 : am_dec cX9_term 49 [.iconst 1, .iadd] 51 = true := by decide +kernel
theorem kX9_term_54 : am_dec cX9_term 54 [.aload_n 0] 55 = true := by decide +kernel
theorem kX9_term_58 : am_dec cX9_term 58 [.aload_n 0, .iload_n 1] 60 = true := by decide +kernel
theorem kX9_term_63 : am_dec cX9_term 63 [.iconst 4] 64 = true := by decide +kernel
theorem kX9_term_67 : am_dec cX9_term 67 [.iconst 5] 68 = true := by decide +kernel
theorem eX9_term_1 : decode cX9_term 1 = .ok (.invokevirtual 203, 3) := by decide +kernel
theorem eX9_term_5 : decode cX9_term 5 = .ok (.invokevirtual 145, 3) := by decide +kernel
theorem eX9_term_8 : decode cX9_term 8 = .ok (.ifCond .eq 66, 3) := by decide +kernel
theorem eX9_term_12 : decode cX9_term 12 = .ok (.invokevirtual 149, 3) := by decide +kernel
theorem eX9_term_17 : decode cX9_term 17 = .ok (.if_icmp .eq 12, 3) := by decide +kernel
theorem eX9_term_21 : decode cX9_term 21 = .ok (.invokevirtual 149, 3) := by decide +kernel
theorem eX9_term_26 : decode cX9_term 26 = .ok (.if_icmp .ne 48, 3) := by decide +kernel
theorem eX9_term_30 : decode cX9_term 30 = .ok (.invokevirtual 149, 3) := by decide +kernel
theorem eX9_term_35 : decode cX9_term 35 = .ok (.if_icmp .ne 7, 3) := by decide +kernel
theorem eX9_term_39 : decode cX9_term 39 = .ok (.goto 4, 3) := by decide +kernel
theorem eX9_term_46 : decode cX9_term 46 = .ok (.getfield 133, 3) := by decide +kernel
theorem eX9_term_51 : decode cX9_term 51 = .ok (.putfield 133, 3) := by decide +kernel
theorem eX9_term_55 : decode cX9_term 55 = .ok (.invokevirtual 203, 3) := by decide +kernel
theorem eX9_term_60 : decode cX9_term 60 = .ok (.ifCond .eq 7, 3) := by decide +kernel
theorem eX9_term_64 : decode cX9_term 64 = .ok (.goto 4, 3) := by decide +kernel
theorem eX9_term_68 : decode cX9_term 68 = .ok (.invokevirtual 200, 3) := by decide +kernel
theorem eX9_term_71 : decode cX9_term 71 = .ok (.goto (-67), 3) := by decide +kernel
theorem eX9_term_74 : decode cX9_term 74 = .ok (.return_, 1) := by decide +kernel
theorem kX9_sum_0 : am_dec cX9_sum 0 [.aload_n 0] 1 = true := by decide +kernel
theorem kX9_sum_4 : am_dec cX9_sum 4 [.aload_n 0] 5 = true := by decide +kernel
theorem kX9_sum_11 : am_dec cX9_sum 11 [.aload_n 0] 12 = true := by decide +kernel
theorem kX9_sum_15 : am_dec cX9_sum 15 [.bipush 43] 17 = true := by decide +kernel
theorem kX9_sum_20 : am_dec cX9_sum 20 [.aload_n 0] 21 = true := by decide +kernel
theorem kX9_sum_24 : am_dec cX9_sum 24 [.bipush 45] 26 = true := by decide +kernel
theorem kX9_sum_29 : am_dec cX9_sum 29 [.aload_n 0] 30 = true := by decide +kernel
theorem kX9_sum_33 : am_dec cX9_sum 33 [.bipush 43] 35 = true := by decide +kernel
theorem kX9_sum_38 : am_dec cX9_sum 38 [.iconst 1] 39 = true := by decide +kernel
theorem kX9_sum_42 : am_dec cX9_sum 42 [.iconst 0] 43 = true := by decide +kernel
theorem kX9_sum_43 : am_dec cX9_sum 43 [.istore_n 1, .aload_n 0, .dup] 46 = true := by decide +kernel
theorem kX9_sum_49 : am_dec cX9_sum 49 [.iconst 1, .iadd] 51 = true := by decide +kernel
theorem kX9_sum_54 : am_dec cX9_sum 54 [.aload_n 0] 55 = true := by decide +kernel
theorem kX9_sum_58 : am_dec cX9_sum 58 [.aload_n 0, .iload_n 1] 60 = true := by decide +kernel
theorem kX9_sum_63 : am_dec cX9_sum 63 [.iconst 2] 64 = true := by decide +kernel
theorem kX9_sum_67 : am_dec cX9_sum 67 [.iconst 3] 68 = true := by decide +kernel
theorem eX9_sum_1 : decode cX9_sum 1 = .ok (.invokevirtual 206, 3) := by decide +kernel
theorem eX9_sum_5 : decode cX9_sum 5 = .ok (.invokevirtual 145, 3) := by decide +kernel
theorem eX9_sum_8 : decode cX9_sum 8 = .ok (.ifCond .eq 66, 3) := by decide +kernel
theorem eX9_sum_12 : decode cX9_sum 12 = .ok (.invokevirtual 149, 3) := by decide +kernel
theorem eX9_sum_17 : decode cX9_sum 17 = .ok (.if_icmp .eq 12, 3) := by decide +kernel
theorem eX9_sum_21 : decode cX9_sum 21 = .ok (.invokevirtual 149, 3) := by decide +kernel
theorem eX9_sum_26 : decode cX9_sum 26 = .ok (.if_icmp .ne 48, 3) := by decide +kernel
theorem eX9_sum_30 : decode cX9_sum 30 = .ok (.invokevirtual 149, 3) := by decide +kernel
theorem eX9_sum_35 : decode cX9_sum 35 = .ok (.if_icmp .ne 7, 3) := by decide +kernel
theorem eX9_sum_39 : decode cX9_sum 39 = .ok (.goto 4, 3) := by decide +kernel
theorem eX9_sum_46 : decode cX9_sum 46 = .ok (.getfield 133, 3) := by decide +kernel
theorem eX9_sum_51 : decode cX9_sum 51 = .ok (.putfield 133, 3) := by decide +kernel
theorem eX9_sum_55 : decode cX9_sum 55 = .ok (.invokevirtual 206, 3) := by decide +kernel
theorem eX9_sum_60 : decode cX9_sum 60 = .ok (.ifCond .eq 7, 3) := by decide +kernel
theorem eX9_sum_64 : decode cX9_sum 64 = .ok (.goto 4, 3) := by decide +kernel
theorem eX9_sum_68 : decode cX9_sum 68 = .ok (.invokevirtual 200, 3) := by decide +kernel
theorem eX9_sum_71 : decode cX9_sum 71 = .ok (.goto (-67), 3) := by decide +kernel
theorem eX9_sum_74 : decode cX9_sum 74 = .ok (.return_, 1) := by decide +kernel
theorem kX9_once_0 : am_dec cX9_once 0 [.aload_n 0] 1 = true := by decide +kernel
theorem kX9_once_4 : am_dec cX9_once 4 [.iload_n 1] 5 = true := by decide +kernel
theorem kX9_once_6 : am_dec cX9_once 6 [.iconst 1] 7 = true := by decide +kernel
theorem kX9_once_8 : am_dec cX9_once 8 [.iconst 1] 9 = true := by decide +kernel
theorem kX9_once_12 : am_dec cX9_once 12 [.aload_n 0, .bipush (-2), .iload_n 2] 16 = true := by decide +kernel
theorem kX9_once_19 : am_dec cX9_once 19 [.aload_n 0, .dup] 21 = true := by decide +kernel
theorem kX9_once_24 : am_dec cX9_once 24 [.iconst 1, .iload_n 1] 26 = true := by decide +kernel
theorem eX9_once_1 : decode cX9_once 1 = .ok (.getfield 209, 3) := by decide +kernel
theorem eX9_once_5 : decode cX9_once 5 = .ok (.ishr, 1) := by decide +kernel
theorem eX9_once_7 : decode cX9_once 7 = .ok (.iand, 1) := by decide +kernel
theorem eX9_once_9 : decode cX9_once 9 = .ok (.if_icmp .ne 10, 3) := by decide +kernel
theorem eX9_once_16 : decode cX9_once 16 = .ok (.invokevirtual 162, 3) := by decide +kernel
theorem eX9_once_21 : decode cX9_once 21 = .ok (.getfield 209, 3) := by decide +kernel
theorem eX9_once_26 : decode cX9_once 26 = .ok (.ishl, 1) := by decide +kernel
theorem eX9_once_27 : decode cX9_once 27 = .ok (.ior, 1) := by decide +kernel
theorem eX9_once_28 : decode cX9_once 28 = .ok (.putfield 209, 3) := by decide +kernel
theorem eX9_once_31 : decode cX9_once 31 = .ok (.return_, 1) := by decide +kernel
theorem kX9_readStone_0 : am_dec cX9_readStone 0 [.aload_n 0] 1 = true := by decide +kernel
theorem kX9_readStone_4 : am_dec cX9_readStone 4 [.iconst 2] 5 = true := by decide +kernel
theorem kX9_readStone_6 : am_dec cX9_readStone 6 [.bipush 20] 8 = true := by decide +kernel
theorem kX9_readStone_11 : am_dec cX9_readStone 11 [.aload_n 0, .bipush (-5), .iload_n 1] 15 = true := by decide +kernel
theorem kX9_readStone_18 : am_dec cX9_readStone 18 [.aload_n 0, .iconst 0, .aload_n 0] 21 = true := by decide +kernel
theorem kX9_readStone_24 : am_dec cX9_readStone 24 [.iconst 0] 25 = true := by decide +kernel
theorem kX9_readStone_29 : am_dec cX9_readStone 29 [.istore_n 2, .aload_n 0, .iconst 0, .aload_n 0] 33 = true := by decide +kernel
theorem kX9_readStone_36 : am_dec cX9_readStone 36 [.iconst 1] 37 = true := by decide +kernel
theorem kX9_readStone_41 : am_dec cX9_readStone 41 [.istore_n 3, .aload_n 0] 43 = true := by decide +kernel
theorem kX9_readStone_49 : am_dec cX9_readStone 49 [.aload_n 0, .iload_n 2, .iload_n 3] 52 = true := by decide +kernel
theorem kX9_readStone_58 : am_dec cX9_readStone 58 [.aload_n 0, .iload_n 2, .iload_n 3] 61 = true := by decide +kernel
theorem kX9_readStone_67 : am_dec cX9_readStone 67 [.aload_n 0, .bipush (-4), .aload_n 0] 71 = true := by decide +kernel
theorem kX9_readStone_77 : am_dec cX9_readStone 77 [.aload_n 0, .iconst 1, .bipush 99] 81 = true := by decide +kernel
theorem kX9_readStone_84 : am_dec cX9_readStone 84 [.istore 4, .aload_n 0] 87 = true := by decide +kernel
theorem kX9_readStone_94 : am_dec cX9_readStone 94 [.bipush 6, .iconst 3, .aload_n 0] 98 = true := by decide +kernel
theorem kX9_readStone_101 : am_dec cX9_readStone 101 [.iconst 2] 102 = true := by decide +kernel
theorem kX9_readStone_103 : am_dec cX9_readStone 103 [.imul, .iadd, .istore 5, .aload_n 0] 108 = true := by decide +kernel
theorem kX9_readStone_111 : am_dec cX9_readStone 111 [.iload 5, .iload_n 2] 114 = true := by decide +kernel
theorem kX9_readStone_115 : am_dec cX9_readStone 115 [.aload_n 0] 116 = true := by decide +kernel
theorem kX9_readStone_119 : am_dec cX9_readStone 119 [.iload 5, .iconst 1, .iadd, .iload_n 3] 124 = true := by decide +kernel
theorem kX9_readStone_125 : am_dec cX9_readStone 125 [.aload_n 0] 126 = true := by decide +kernel
theorem kX9_readStone_129 : am_dec cX9_readStone 129 [.iload 5, .iconst 2, .iadd, .iload 4] 135 = true := by decide +kernel
theorem kX9_readStone_136 : am_dec cX9_readStone 136 [.aload_n 0] 137 = true := by decide +kernel
theorem kX9_readStone_140 : am_dec cX9_readStone 140 [.iconst 2, .dup2] 142 = true := by decide +kernel
theorem kX9_readStone_143 : am_dec cX9_readStone 143 [.iconst 1, .iadd] 145 = true := by decide +kernel
theorem eX9_readStone_1 : decode cX9_readStone 1 = .ok (.getfield 17, 3) := by decide +kernel
theorem eX9_readStone_5 : decode cX9_readStone 5 = .ok (.iaload, 1) := by decide +kernel
theorem eX9_readStone_8 : decode cX9_readStone 8 = .ok (.if_icmp .ne 10, 3) := by decide +kernel
theorem eX9_readStone_15 : decode cX9_readStone 15 = .ok (.invokevirtual 162, 3) := by decide +kernel
theorem eX9_readStone_21 : decode cX9_readStone 21 = .ok (.getfield 17, 3) := by decide +kernel
theorem eX9_readStone_25 : decode cX9_readStone 25 = .ok (.iaload, 1) := by decide +kernel
theorem eX9_readStone_26 : decode cX9_readStone 26 = .ok (.invokevirtual 197, 3) := by decide +kernel
theorem eX9_readStone_33 : decode cX9_readStone 33 = .ok (.getfield 17, 3) := by decide +kernel
theorem eX9_readStone_37 : decode cX9_readStone 37 = .ok (.iaload, 1) := by decide +kernel
theorem eX9_readStone_38 : decode cX9_readStone 38 = .ok (.invokevirtual 197, 3) := by decide +kernel
theorem eX9_readStone_43 : decode cX9_readStone 43 = .ok (.invokevirtual 145, 3) := by decide +kernel
theorem eX9_readStone_46 : decode cX9_readStone 46 = .ok (.ifCond .eq 31, 3) := by decide +kernel
theorem eX9_readStone_52 : decode cX9_readStone 52 = .ok (.invokevirtual 110, 3) := by decide +kernel
theorem eX9_readStone_55 : decode cX9_readStone 55 = .ok (.ifCond .ne 12, 3) := by decide +kernel
theorem eX9_readStone_61 : decode cX9_readStone 61 = .ok (.invokevirtual 212, 3) := by decide +kernel
theorem eX9_readStone_64 : decode cX9_readStone 64 = .ok (.ifCond .eq 13, 3) := by decide +kernel
theorem eX9_readStone_71 : decode cX9_readStone 71 = .ok (.getfield 169, 3) := by decide +kernel
theorem eX9_readStone_74 : decode cX9_readStone 74 = .ok (.invokevirtual 162, 3) := by decide +kernel
theorem eX9_readStone_81 : decode cX9_readStone 81 = .ok (.invokevirtual 197, 3) := by decide +kernel
theorem eX9_readStone_87 : decode cX9_readStone 87 = .ok (.invokevirtual 145, 3) := by decide +kernel
theorem eX9_readStone_90 : decode cX9_readStone 90 = .ok (.ifCond .ne 4, 3) := by decide +kernel
theorem eX9_readStone_93 : decode cX9_readStone 93 = .ok (.return_, 1) := by decide +kernel
theorem eX9_readStone_98 : decode cX9_readStone 98 = .ok (.getfield 17, 3) := by decide +kernel
theorem eX9_readStone_102 : decode cX9_readStone 102 = .ok (.iaload, 1) := by decide +kernel
theorem eX9_readStone_108 : decode cX9_readStone 108 = .ok (.getfield 17, 3) := by decide +kernel
theorem eX9_readStone_114 : decode cX9_readStone 114 = .ok (.iastore, 1) := by decide +kernel
theorem eX9_readStone_116 : decode cX9_readStone 116 = .ok (.getfield 17, 3) := by decide +kernel
theorem eX9_readStone_124 : decode cX9_readStone 124 = .ok (.iastore, 1) := by decide +kernel
theorem eX9_readStone_126 : decode cX9_readStone 126 = .ok (.getfield 17, 3) := by decide +kernel
theorem eX9_readStone_135 : decode cX9_readStone 135 = .ok (.iastore, 1) := by decide +kernel
theorem eX9_readStone_137 : decode cX9_readStone 137 = .ok (.getfield 17, 3) := by decide +kernel
theorem eX9_readStone_142 : decode cX9_readStone 142 = .ok (.iaload, 1) := by decide +kernel
theorem eX9_readStone_145 : decode cX9_readStone 145 = .ok (.iastore, 1) := by decide +kernel
theorem eX9_readStone_146 : decode cX9_readStone 146 = .ok (.return_, 1) := by decide +kernel
theorem kX9_readPolygon_0 : am_dec cX9_readPolygon 0 [.aload_n 0] 1 = true := by decide +kernel
theorem kX9_readPolygon_4 : am_dec cX9_readPolygon 4 [.iconst 3] 5 = true := by decide +kernel
theorem kX9_readPolygon_6 : am_dec cX9_readPolygon 6 [.bipush 6] 8 = true := by decide +kernel
theorem kX9_readPolygon_11 : am_dec cX9_readPolygon 11 [.aload_n 0, .bipush (-5), .iload_n 1] 15 = true := by decide +kernel
theorem kX9_readPolygon_18 : am_dec cX9_readPolygon 18 [.aload_n 0, .iconst 0, .iconst 3] 21 = true := by decide +kernel
theorem kX9_readPolygon_24 : am_dec cX9_readPolygon 24 [.istore_n 2, .aload_n 0, .iconst 0, .aload_n 0] 28 = true := by decide +kernel
theorem kX9_readPolygon_31 : am_dec cX9_readPolygon 31 [.iconst 0] 32 = true := by decide +kernel
theorem kX9_readPolygon_36 : am_dec cX9_readPolygon 36 [.istore_n 3, .aload_n 0, .iconst 0, .aload_n 0] 40 = true := by decide +kernel
theorem kX9_readPolygon_43 : am_dec cX9_readPolygon 43 [.iconst 1] 44 = true := by decide +kernel
theorem kX9_readPolygon_48 : am_dec cX9_readPolygon 48 [.istore 4, .aload_n 0] 51 = true := by decide +kernel
theorem kX9_readPolygon_57 : am_dec cX9_readPolygon 57 [.aload_n 0, .iload_n 3, .iload 4] 61 = true := by decide +kernel
theorem kX9_readPolygon_67 : am_dec cX9_readPolygon 67 [.aload_n 0, .iload_n 3, .iload 4] 71 = true := by decide +kernel
theorem kX9_readPolygon_77 : am_dec cX9_readPolygon 77 [.aload_n 0, .bipush (-4), .aload_n 0] 81 = true := by decide +kernel
theorem kX9_readPolygon_87 : am_dec cX9_readPolygon 87 [.aload_n 0] 88 = true := by decide +kernel
theorem kX9_readPolygon_95 : am_dec cX9_readPolygon 95 [.aload_n 0, .iload_n 2, .iload_n 3, .iload 4] 100 = true := by decide +kernel
theorem kX9_readPolygon_103 : am_dec cX9_readPolygon 103 [.aload_n 0] 104 = true := by decide +kernel
theorem kX9_readPolygon_107 : am_dec cX9_readPolygon 107 [.iconst 3] 108 = true := by decide +kernel
theorem kX9_readPolygon_109 : am_dec cX9_readPolygon 109 [.iconst 1, .isub, .istore 5] 113 = true := by decide +kernel
theorem kX9_readPolygon_113 : am_dec cX9_readPolygon 113 [.aload_n 0] 114 = true := by decide +kernel
theorem kX9_readPolygon_120 : am_dec cX9_readPolygon 120 [.aload_n 0] 121 = true := by decide +kernel
theorem kX9_readPolygon_130 : am_dec cX9_readPolygon 130 [.aload_n 0, .iconst 0, .aload_n 0] 133 = true := by decide +kernel
theorem kX9_readPolygon_136 : am_dec cX9_readPolygon 136 [.iconst 0] 137 = true := by decide +kernel
theorem kX9_readPolygon_141 : am_dec cX9_readPolygon 141 [.istore_n 3, .aload_n 0, .iconst 0, .aload_n 0] 145 = true := by decide +kernel
theorem kX9_readPolygon_148 : am_dec cX9_readPolygon 148 [.iconst 1] 149 = true := by decide +kernel
theorem kX9_readPolygon_153 : am_dec cX9_readPolygon 153 [.istore 4, .aload_n 0] 156 = true := by decide +kernel
theorem kX9_readPolygon_162 : am_dec cX9_readPolygon 162 [.aload_n 0, .iload 5, .iload_n 3, .iload 4] 168 = true := by decide +kernel
theorem kX9_readPolygon_174 : am_dec cX9_readPolygon 174 [.aload_n 0, .bipush (-4), .aload_n 0] 178 = true := by decide +kernel
theorem kX9_readPolygon_184 : am_dec cX9_readPolygon 184 [.aload_n 0] 185 = true := by decide +kernel
theorem kX9_readPolygon_191 : am_dec cX9_readPolygon 191 [.aload_n 0, .iload 5, .aload_n 0, .iload 5] 197 = true := by decide +kernel
theorem kX9_readPolygon_200 : am_dec cX9_readPolygon 200 [.iload_n 3, .iload 4] 203 = true := by decide +kernel
theorem kX9_readPolygon_209 : am_dec cX9_readPolygon 209 [.aload_n 0] 210 = true := by decide +kernel
theorem kX9_readPolygon_217 : am_dec cX9_readPolygon 217 [.aload_n 0] 218 = true := by decide +kernel
theorem kX9_readPolygon_221 : am_dec cX9_readPolygon 221 [.bipush 59] 223 = true := by decide +kernel
theorem kX9_readPolygon_226 : am_dec cX9_readPolygon 226 [.aload_n 0, .bipush (-2), .aload_n 0] 230 = true := by decide +kernel
theorem kX9_readPolygon_239 : am_dec cX9_readPolygon 239 [.aload_n 0, .iload 5] 242 = true := by decide +kernel
theorem kX9_readPolygon_248 : am_dec cX9_readPolygon 248 [.aload_n 0, .bipush (-4), .aload_n 0] 252 = true := by decide +kernel
theorem kX9_readPolygon_258 : am_dec cX9_readPolygon 258 [.aload_n 0] 259 = true := by decide +kernel
theorem kX9_readPolygon_262 : am_dec cX9_readPolygon 262 [.iload 5] 264 = true := by decide +kernel
theorem kX9_readPolygon_267 : am_dec cX9_readPolygon 267 [.iconst 2, .iadd, .iconst 1] 270 = true := by decide +kernel
theorem eX9_readPolygon_1 : decode cX9_readPolygon 1 = .ok (.getfield 17, 3) := by decide +kernel
theorem eX9_readPolygon_5 : decode cX9_readPolygon 5 = .ok (.iaload, 1) := by decide +kernel
theorem eX9_readPolygon_8 : decode cX9_readPolygon 8 = .ok (.if_icmp .ne 10, 3) := by decide +kernel
theorem eX9_readPolygon_15 : decode cX9_readPolygon 15 = .ok (.invokevirtual 162, 3) := by decide +kernel
theorem eX9_readPolygon_21 : decode cX9_readPolygon 21 = .ok (.invokevirtual 197, 3) := by decide +kernel
theorem eX9_readPolygon_28 : decode cX9_readPolygon 28 = .ok (.getfield 17, 3) := by decide +kernel
theorem eX9_readPolygon_32 : decode cX9_readPolygon 32 = .ok (.iaload, 1) := by decide +kernel
theorem eX9_readPolygon_33 : decode cX9_readPolygon 33 = .ok (.invokevirtual 197, 3) := by decide +kernel
theorem eX9_readPolygon_40 : decode cX9_readPolygon 40 = .ok (.getfield 17, 3) := by decide +kernel
theorem eX9_readPolygon_44 : decode cX9_readPolygon 44 = .ok (.iaload, 1) := by decide +kernel
theorem eX9_readPolygon_45 : decode cX9_readPolygon 45 = .ok (.invokevirtual 197, 3) := by decide +kernel
theorem eX9_readPolygon_51 : decode cX9_readPolygon 51 = .ok (.invokevirtual 145, 3) := by decide +kernel
theorem eX9_readPolygon_54 : decode cX9_readPolygon 54 = .ok (.ifCond .eq 33, 3) := by decide +kernel
theorem eX9_readPolygon_61 : decode cX9_readPolygon 61 = .ok (.invokevirtual 110, 3) := by decide +kernel
theorem eX9_readPolygon_64 : decode cX9_readPolygon 64 = .ok (.ifCond .ne 13, 3) := by decide +kernel
theorem eX9_readPolygon_71 : decode cX9_readPolygon 71 = .ok (.invokevirtual 212, 3) := by decide +kernel
theorem eX9_readPolygon_74 : decode cX9_readPolygon 74 = .ok (.ifCond .eq 13, 3) := by decide +kernel
theorem eX9_readPolygon_81 : decode cX9_readPolygon 81 = .ok (.getfield 169, 3) := by decide +kernel
theorem eX9_readPolygon_84 : decode cX9_readPolygon 84 = .ok (.invokevirtual 162, 3) := by decide +kernel
theorem eX9_readPolygon_88 : decode cX9_readPolygon 88 = .ok (.invokevirtual 145, 3) := by decide +kernel
theorem eX9_readPolygon_91 : decode cX9_readPolygon 91 = .ok (.ifCond .ne 4, 3) := by decide +kernel
theorem eX9_readPolygon_94 : decode cX9_readPolygon 94 = .ok (.return_, 1) := by decide +kernel
theorem eX9_readPolygon_100 : decode cX9_readPolygon 100 = .ok (.invokevirtual 215, 3) := by decide +kernel
theorem eX9_readPolygon_104 : decode cX9_readPolygon 104 = .ok (.getfield 17, 3) := by decide +kernel
theorem eX9_readPolygon_108 : decode cX9_readPolygon 108 = .ok (.iaload, 1) := by decide +kernel
theorem eX9_readPolygon_114 : decode cX9_readPolygon 114 = .ok (.invokevirtual 145, 3) := by decide +kernel
theorem eX9_readPolygon_117 : decode cX9_readPolygon 117 = .ok (.ifCond .eq 92, 3) := by decide +kernel
theorem eX9_readPolygon_121 : decode cX9_readPolygon 121 = .ok (.invokevirtual 149, 3) := by decide +kernel
theorem eX9_readPolygon_124 : decode cX9_readPolygon 124 = .ok (.invokestatic 166, 3) := by decide +kernel
theorem eX9_readPolygon_127 : decode cX9_readPolygon 127 = .ok (.ifCond .eq 82, 3) := by decide +kernel
theorem eX9_readPolygon_133 : decode cX9_readPolygon 133 = .ok (.getfield 17, 3) := by decide +kernel
theorem eX9_readPolygon_137 : decode cX9_readPolygon 137 = .ok (.iaload, 1) := by decide +kernel
theorem eX9_readPolygon_138 : decode cX9_readPolygon 138 = .ok (.invokevirtual 197, 3) := by decide +kernel
theorem eX9_readPolygon_145 : decode cX9_readPolygon 145 = .ok (.getfield 17, 3) := by decide +kernel
theorem eX9_readPolygon_149 : decode cX9_readPolygon 149 = .ok (.iaload, 1) := by decide +kernel
theorem eX9_readPolygon_150 : decode cX9_readPolygon 150 = .ok (.invokevirtual 197, 3) := by decide +kernel
theorem eX9_readPolygon_156 : decode cX9_readPolygon 156 = .ok (.invokevirtual 145, 3) := by decide +kernel
theorem eX9_readPolygon_159 : decode cX9_readPolygon 159 = .ok (.ifCond .eq 25, 3) := by decide +kernel
theorem eX9_readPolygon_168 : decode cX9_readPolygon 168 = .ok (.invokevirtual 219, 3) := by decide +kernel
theorem eX9_readPolygon_171 : decode cX9_readPolygon 171 = .ok (.ifCond .eq 13, 3) := by decide +kernel
theorem eX9_readPolygon_178 : decode cX9_readPolygon 178 = .ok (.getfield 169, 3) := by decide +kernel
theorem eX9_readPolygon_181 : decode cX9_readPolygon 181 = .ok (.invokevirtual 162, 3) := by decide +kernel
theorem eX9_readPolygon_185 : decode cX9_readPolygon 185 = .ok (.invokevirtual 145, 3) := by decide +kernel
theorem eX9_readPolygon_188 : decode cX9_readPolygon 188 = .ok (.ifCond .eq (-75), 3) := by decide +kernel
theorem eX9_readPolygon_197 : decode cX9_readPolygon 197 = .ok (.invokevirtual 39, 3) := by decide +kernel
theorem eX9_readPolygon_203 : decode cX9_readPolygon 203 = .ok (.invokevirtual 124, 3) := by decide +kernel
theorem eX9_readPolygon_206 : decode cX9_readPolygon 206 = .ok (.goto (-93), 3) := by decide +kernel
theorem eX9_readPolygon_210 : decode cX9_readPolygon 210 = .ok (.invokevirtual 145, 3) := by decide +kernel
theorem eX9_readPolygon_213 : decode cX9_readPolygon 213 = .ok (.ifCond .ne 4, 3) := by decide +kernel
theorem eX9_readPolygon_216 : decode cX9_readPolygon 216 = .ok (.return_, 1) := by decide +kernel
theorem eX9_readPolygon_218 : decode cX9_readPolygon 218 = .ok (.invokevirtual 149, 3) := by decide +kernel
theorem eX9_readPolygon_223 : decode cX9_readPolygon 223 = .ok (.if_icmp .eq 16, 3) := by decide +kernel
theorem eX9_readPolygon_230 : decode cX9_readPolygon 230 = .ok (.getfield 133, 3) := by decide +kernel
theorem eX9_readPolygon_233 : decode cX9_readPolygon 233 = .ok (.invokevirtual 162, 3) := by decide +kernel
theorem eX9_readPolygon_236 : decode cX9_readPolygon 236 = .ok (.goto 22, 3) := by decide +kernel
theorem eX9_readPolygon_242 : decode cX9_readPolygon 242 = .ok (.invokevirtual 223, 3) := by decide +kernel
theorem eX9_readPolygon_245 : decode cX9_readPolygon 245 = .ok (.ifCond .eq 13, 3) := by decide +kernel
theorem eX9_readPolygon_252 : decode cX9_readPolygon 252 = .ok (.getfield 133, 3) := by decide +kernel
theorem eX9_readPolygon_255 : decode cX9_readPolygon 255 = .ok (.invokevirtual 162, 3) := by decide +kernel
theorem eX9_readPolygon_259 : decode cX9_readPolygon 259 = .ok (.getfield 17, 3) := by decide +kernel
theorem eX9_readPolygon_264 : decode cX9_readPolygon 264 = .ok (.invokestatic 35, 3) := by decide +kernel
theorem eX9_readPolygon_270 : decode cX9_readPolygon 270 = .ok (.iastore, 1) := by decide +kernel
theorem eX9_readPolygon_271 : decode cX9_readPolygon 271 = .ok (.return_, 1) := by decide +kernel
theorem kX9_statement_0 : am_dec cX9_statement 0 [.aload_n 0] 1 = true := by decide +kernel
theorem kX9_statement_4 : am_dec cX9_statement 4 [.pop, .aload_n 0] 6 = true := by decide +kernel
theorem kX9_statement_9 : am_dec cX9_statement 9 [.istore_n 1, .aload_n 0] 11 = true := by decide +kernel
theorem kX9_statement_19 : am_dec cX9_statement 19 [.aload_n 0, .iload_n 1] 21 = true := by decide +kernel
theorem kX9_statement_27 : am_dec cX9_statement 27 [.aload_n 0] 28 = true := by decide +kernel
theorem kX9_statement_36 : am_dec cX9_statement 36 [.aload_n 0, .iload_n 1] 38 = true := by decide +kernel
theorem kX9_statement_44 : am_dec cX9_statement 44 [.aload_n 0] 45 = true := by decide +kernel
theorem kX9_statement_53 : am_dec cX9_statement 53 [.aload_n 0, .iconst 0, .iload_n 1] 56 = true := by decide +kernel
theorem kX9_statement_59 : am_dec cX9_statement 59 [.aload_n 0] 60 = true := by decide +kernel
theorem kX9_statement_63 : am_dec cX9_statement 63 [.iconst 4, .iconst 1] 65 = true := by decide +kernel
theorem kX9_statement_66 : am_dec cX9_statement 66 [.aload_n 0] 67 = true := by decide +kernel
theorem kX9_statement_73 : am_dec cX9_statement 73 [.aload_n 0, .bipush (-2), .iload_n 1] 77 = true := by decide +kernel
theorem kX9_statement_80 : am_dec cX9_statement 80 [.aload_n 0, .bipush 59] 83 = true := by decide +kernel
theorem eX9_statement_1 : decode cX9_statement 1 = .ok (.invokevirtual 149, 3) := by decide +kernel
theorem eX9_statement_6 : decode cX9_statement 6 = .ok (.getfield 133, 3) := by decide +kernel
theorem eX9_statement_11 : decode cX9_statement 11 = .ok (.ldc 226, 2) := by decide +kernel
theorem eX9_statement_13 : decode cX9_statement 13 = .ok (.invokevirtual 185, 3) := by decide +kernel
theorem eX9_statement_16 : decode cX9_statement 16 = .ok (.ifCond .eq 11, 3) := by decide +kernel
theorem eX9_statement_21 : decode cX9_statement 21 = .ok (.invokevirtual 228, 3) := by decide +kernel
theorem eX9_statement_24 : decode cX9_statement 24 = .ok (.goto 56, 3) := by decide +kernel
theorem eX9_statement_28 : decode cX9_statement 28 = .ok (.ldc 231, 2) := by decide +kernel
theorem eX9_statement_30 : decode cX9_statement 30 = .ok (.invokevirtual 185, 3) := by decide +kernel
theorem eX9_statement_33 : decode cX9_statement 33 = .ok (.ifCond .eq 11, 3) := by decide +kernel
theorem eX9_statement_38 : decode cX9_statement 38 = .ok (.invokevirtual 233, 3) := by decide +kernel
theorem eX9_statement_41 : decode cX9_statement 41 = .ok (.goto 39, 3) := by decide +kernel
theorem eX9_statement_45 : decode cX9_statement 45 = .ok (.ldc 236, 2) := by decide +kernel
theorem eX9_statement_47 : decode cX9_statement 47 = .ok (.invokevirtual 185, 3) := by decide +kernel
theorem eX9_statement_50 : decode cX9_statement 50 = .ok (.ifCond .eq 23, 3) := by decide +kernel
theorem eX9_statement_56 : decode cX9_statement 56 = .ok (.invokevirtual 238, 3) := by decide +kernel
theorem eX9_statement_60 : decode cX9_statement 60 = .ok (.getfield 17, 3) := by decide +kernel
theorem eX9_statement_65 : decode cX9_statement 65 = .ok (.iastore, 1) := by decide +kernel
theorem eX9_statement_67 : decode cX9_statement 67 = .ok (.invokevirtual 176, 3) := by decide +kernel
theorem eX9_statement_70 : decode cX9_statement 70 = .ok (.goto 10, 3) := by decide +kernel
theorem eX9_statement_77 : decode cX9_statement 77 = .ok (.invokevirtual 162, 3) := by decide +kernel
theorem eX9_statement_83 : decode cX9_statement 83 = .ok (.invokevirtual 179, 3) := by decide +kernel
theorem eX9_statement_86 : decode cX9_statement 86 = .ok (.return_, 1) := by decide +kernel
theorem kX9_load_0 : am_dec cX9_load 0 [.aload_n 0, .iconst 0] 2 = true := by decide +kernel
theorem kX9_load_5 : am_dec cX9_load 5 [.aload_n 0, .iload_n 1, .iconst 0, .aload_n 0] 9 = true := by decide +kernel
theorem kX9_load_18 : am_dec cX9_load 18 [.iconst 1] 19 = true := by decide +kernel
theorem kX9_load_22 : am_dec cX9_load 22 [.iconst 0] 23 = true := by decide +kernel
theorem kX9_load_23 : am_dec cX9_load 23 [.iconst 1] 24 = true := by decide +kernel
theorem kX9_load_30 : am_dec cX9_load 30 [.iconst 0] 31 = true := by decide +kernel
theorem kX9_load_32 : am_dec cX9_load 32 [.aload_n 0, .iconst 0] 34 = true := by decide +kernel
theorem kX9_load_37 : am_dec cX9_load 37 [.aload_n 0, .iload_n 1] 39 = true := by decide +kernel
theorem kX9_load_42 : am_dec cX9_load 42 [.aload_n 0, .iconst 0] 44 = true := by decide +kernel
theorem kX9_load_47 : am_dec cX9_load 47 [.aload_n 0, .iconst 0] 49 = true := by decide +kernel
theorem kX9_load_52 : am_dec cX9_load 52 [.aload_n 0, .iconst (-1)] 54 = true := by decide +kernel
theorem kX9_load_57 : am_dec cX9_load 57 [.aload_n 0, .iconst 0] 59 = true := by decide +kernel
theorem kX9_load_62 : am_dec cX9_load 62 [.aload_n 0, .iconst 0] 64 = true := by decide +kernel
theorem kX9_load_67 : am_dec cX9_load 67 [.aload_n 0] 68 = true := by decide +kernel
theorem kX9_load_71 : am_dec cX9_load 71 [.aload_n 0] 72 = true := by decide +kernel
theorem kX9_load_78 : am_dec cX9_load 78 [.iconst 0, .istore_n 2] 80 = true := by decide +kernel
theorem kX9_load_80 : am_dec cX9_load 80 [.iload_n 2, .sipush 1528] 84 = true := by decide +kernel
theorem kX9_load_87 : am_dec cX9_load 87 [.aload_n 0] 88 = true := by decide +kernel
theorem kX9_load_91 : am_dec cX9_load 91 [.iload_n 2, .iconst 0] 93 = true := by decide +kernel
theorem kX9_load_94 : am_dec cX9_load 94 [.iinc 2 1] 97 = true := by decide +kernel
theorem kX9_load_100 : am_dec cX9_load 100 [.aload_n 0] 101 = true := by decide +kernel
theorem kX9_load_109 : am_dec cX9_load 109 [.aload_n 0, .bipush (-2), .aload_n 0] 113 = true := by decide +kernel
theorem kX9_load_119 : am_dec cX9_load 119 [.aload_n 0] 120 = true := by decide +kernel
theorem kX9_load_123 : am_dec cX9_load 123 [.iconst 0, .aload_n 0, .iconst 2, .bipush 30] 128 = true := by decide +kernel
theorem kX9_load_132 : am_dec cX9_load 132 [.aload_n 0] 133 = true := by decide +kernel
theorem kX9_load_136 : am_dec cX9_load 136 [.iconst 1, .aload_n 0, .iconst 2, .bipush 30] 141 = true := by decide +kernel
theorem kX9_load_145 : am_dec cX9_load 145 [.aload_n 0, .bipush 59] 148 = true := by decide +kernel
theorem kX9_load_151 : am_dec cX9_load 151 [.aload_n 0] 152 = true := by decide +kernel
theorem kX9_load_158 : am_dec cX9_load 158 [.aload_n 0] 159 = true := by decide +kernel
theorem kX9_load_162 : am_dec cX9_load 162 [.iconst (-1)] 163 = true := by decide +kernel
theorem kX9_load_166 : am_dec cX9_load 166 [.aload_n 0] 167 = true := by decide +kernel
theorem kX9_load_173 : am_dec cX9_load 173 [.aload_n 0, .aload_n 0] 175 = true := by decide +kernel
theorem kX9_load_181 : am_dec cX9_load 181 [.aload_n 0] 182 = true := by decide +kernel
theorem kX9_load_188 : am_dec cX9_load 188 [.aload_n 0] 189 = true := by decide +kernel
theorem kX9_load_192 : am_dec cX9_load 192 [.aload_n 0] 193 = true := by decide +kernel
theorem kX9_load_199 : am_dec cX9_load 199 [.aload_n 0] 200 = true := by decide +kernel
theorem kX9_load_204 : am_dec cX9_load 204 [.aload_n 0, .aload_n 0] 206 = true := by decide +kernel
theorem kX9_load_212 : am_dec cX9_load 212 [.aload_n 0] 213 = true := by decide +kernel
theorem kX9_load_216 : am_dec cX9_load 216 [.iconst 3] 217 = true := by decide +kernel
theorem eX9_load_2 : decode cX9_load 2 = .ok (.putfield 32, 3) := by decide +kernel
theorem eX9_load_9 : decode cX9_load 9 = .ok (.getfield 127, 3) := by decide +kernel
theorem eX9_load_12 : decode cX9_load 12 = .ok (.invokestatic 57, 3) := by decide +kernel
theorem eX9_load_15 : decode cX9_load 15 = .ok (.ifCond .ne 7, 3) := by decide +kernel
theorem eX9_load_19 : decode cX9_load 19 = .ok (.goto 4, 3) := by decide +kernel
theorem eX9_load_24 : decode cX9_load 24 = .ok (.invokevirtual 241, 3) := by decide +kernel
theorem eX9_load_27 : decode cX9_load 27 = .ok (.ifCond .eq 5, 3) := by decide +kernel
theorem eX9_load_31 : decode cX9_load 31 = .ok (.ireturn, 1) := by decide +kernel
theorem eX9_load_34 : decode cX9_load 34 = .ok (.putfield 127, 3) := by decide +kernel
theorem eX9_load_39 : decode cX9_load 39 = .ok (.putfield 130, 3) := by decide +kernel
theorem eX9_load_44 : decode cX9_load 44 = .ok (.putfield 133, 3) := by decide +kernel
theorem eX9_load_49 : decode cX9_load 49 = .ok (.putfield 139, 3) := by decide +kernel
theorem eX9_load_54 : decode cX9_load 54 = .ok (.putfield 142, 3) := by decide +kernel
theorem eX9_load_59 : decode cX9_load 59 = .ok (.putfield 173, 3) := by decide +kernel
theorem eX9_load_64 : decode cX9_load 64 = .ok (.putfield 209, 3) := by decide +kernel
theorem eX9_load_68 : decode cX9_load 68 = .ok (.getfield 17, 3) := by decide +kernel
theorem eX9_load_72 : decode cX9_load 72 = .ok (.getfield 20, 3) := by decide +kernel
theorem eX9_load_75 : decode cX9_load 75 = .ok (.invokestatic 245, 3) := by decide +kernel
theorem eX9_load_84 : decode cX9_load 84 = .ok (.if_icmp .ge 16, 3) := by decide +kernel
theorem eX9_load_88 : decode cX9_load 88 = .ok (.getfield 17, 3) := by decide +kernel
theorem eX9_load_93 : decode cX9_load 93 = .ok (.iastore, 1) := by decide +kernel
theorem eX9_load_97 : decode cX9_load 97 = .ok (.goto (-17), 3) := by decide +kernel
theorem eX9_load_101 : decode cX9_load 101 = .ok (.ldc 249, 2) := by decide +kernel
theorem eX9_load_103 : decode cX9_load 103 = .ok (.invokevirtual 185, 3) := by decide +kernel
theorem eX9_load_106 : decode cX9_load 106 = .ok (.ifCond .ne 13, 3) := by decide +kernel
theorem eX9_load_113 : decode cX9_load 113 = .ok (.getfield 133, 3) := by decide +kernel
theorem eX9_load_116 : decode cX9_load 116 = .ok (.invokevirtual 162, 3) := by decide +kernel
theorem eX9_load_120 : decode cX9_load 120 = .ok (.getfield 17, 3) := by decide +kernel
theorem eX9_load_128 : decode cX9_load 128 = .ok (.invokevirtual 197, 3) := by decide +kernel
theorem eX9_load_131 : decode cX9_load 131 = .ok (.iastore, 1) := by decide +kernel
theorem eX9_load_133 : decode cX9_load 133 = .ok (.getfield 17, 3) := by decide +kernel
theorem eX9_load_141 : decode cX9_load 141 = .ok (.invokevirtual 197, 3) := by decide +kernel
theorem eX9_load_144 : decode cX9_load 144 = .ok (.iastore, 1) := by decide +kernel
theorem eX9_load_148 : decode cX9_load 148 = .ok (.invokevirtual 179, 3) := by decide +kernel
theorem eX9_load_152 : decode cX9_load 152 = .ok (.invokevirtual 145, 3) := by decide +kernel
theorem eX9_load_155 : decode cX9_load 155 = .ok (.ifCond .eq 18, 3) := by decide +kernel
theorem eX9_load_159 : decode cX9_load 159 = .ok (.invokevirtual 149, 3) := by decide +kernel
theorem eX9_load_163 : decode cX9_load 163 = .ok (.if_icmp .eq 10, 3) := by decide +kernel
theorem eX9_load_167 : decode cX9_load 167 = .ok (.invokevirtual 251, 3) := by decide +kernel
theorem eX9_load_170 : decode cX9_load 170 = .ok (.goto (-19), 3) := by decide +kernel
theorem eX9_load_175 : decode cX9_load 175 = .ok (.getfield 142, 3) := by decide +kernel
theorem eX9_load_178 : decode cX9_load 178 = .ok (.putfield 13, 3) := by decide +kernel
theorem eX9_load_182 : decode cX9_load 182 = .ok (.invokevirtual 145, 3) := by decide +kernel
theorem eX9_load_185 : decode cX9_load 185 = .ok (.ifCond .ne 19, 3) := by decide +kernel
theorem eX9_load_189 : decode cX9_load 189 = .ok (.getfield 20, 3) := by decide +kernel
theorem eX9_load_193 : decode cX9_load 193 = .ok (.getfield 17, 3) := by decide +kernel
theorem eX9_load_196 : decode cX9_load 196 = .ok (.invokestatic 245, 3) := by decide +kernel
theorem eX9_load_200 : decode cX9_load 200 = .ok (.getfield 139, 3) := by decide +kernel
theorem eX9_load_203 : decode cX9_load 203 = .ok (.ireturn, 1) := by decide +kernel
theorem eX9_load_206 : decode cX9_load 206 = .ok (.getfield 20, 3) := by decide +kernel
theorem eX9_load_209 : decode cX9_load 209 = .ok (.invokevirtual 254, 3) := by decide +kernel
theorem eX9_load_213 : decode cX9_load 213 = .ok (.getfield 17, 3) := by decide +kernel
theorem eX9_load_217 : decode cX9_load 217 = .ok (.iaload, 1) := by decide +kernel
theorem eX9_load_218 : decode cX9_load 218 = .ok (.ireturn, 1) := by decide +kernel
theorem kX9_errorOffset_0 : am_dec cX9_errorOffset 0 [.aload_n 0, .iconst 0] 2 = true := by decide +kernel
theorem kX9_errorOffset_5 : am_dec cX9_errorOffset 5 [.aload_n 0] 6 = true := by decide +kernel
theorem eX9_errorOffset_2 : decode cX9_errorOffset 2 = .ok (.putfield 32, 3) := by decide +kernel
theorem eX9_errorOffset_6 : decode cX9_errorOffset 6 = .ok (.getfield 13, 3) := by decide +kernel
theorem eX9_errorOffset_9 : decode cX9_errorOffset 9 = .ok (.ireturn, 1) := by decide +kernel
theorem kX9_doubled_0 : am_dec cX9_doubled 0 [.iconst 0, .istore_n 2, .iconst 0, .istore_n 3] 4 = true := by decide +kernel
theorem kX9_doubled_4 : am_dec cX9_doubled 4 [.iload_n 3, .aload_n 0, .iload_n 1] 7 = true := by decide +kernel
theorem kX9_doubled_13 : am_dec cX9_doubled 13 [.iload_n 2, .iconst 0, .iconst 0, .aload_n 0, .iload_n 1, .iload_n 3] 19 = true := by decide +kernel
theorem kX9_doubled_22 : am_dec cX9_doubled 22 [.aload_n 0, .iload_n 1, .iload_n 3] 25 = true := by decide +kernel
theorem kX9_doubled_28 : am_dec cX9_doubled 28 [.aload_n 0, .iload_n 1, .aload_n 0, .iload_n 1, .iload_n 3] 33 = true := by decide +kernel
theorem kX9_doubled_39 : am_dec cX9_doubled 39 [.aload_n 0, .iload_n 1, .aload_n 0, .iload_n 1, .iload_n 3] 44 = true := by decide +kernel
theorem kX9_doubled_53 : am_dec cX9_doubled 53 [.iadd, .istore_n 2, .iinc 3 1] 58 = true := by decide +kernel
theorem kX9_doubled_61 : am_dec cX9_doubled 61 [.iload_n 2] 62 = true := by decide +kernel
theorem eX9_doubled_7 : decode cX9_doubled 7 = .ok (.invokevirtual 39, 3) := by decide +kernel
theorem eX9_doubled_10 : decode cX9_doubled 10 = .ok (.if_icmp .ge 51, 3) := by decide +kernel
theorem eX9_doubled_19 : decode cX9_doubled 19 = .ok (.invokevirtual 72, 3) := by decide +kernel
theorem eX9_doubled_25 : decode cX9_doubled 25 = .ok (.invokevirtual 75, 3) := by decide +kernel
theorem eX9_doubled_33 : decode cX9_doubled 33 = .ok (.invokevirtual 84, 3) := by decide +kernel
theorem eX9_doubled_36 : decode cX9_doubled 36 = .ok (.invokevirtual 72, 3) := by decide +kernel
theorem eX9_doubled_44 : decode cX9_doubled 44 = .ok (.invokevirtual 84, 3) := by decide +kernel
theorem eX9_doubled_47 : decode cX9_doubled 47 = .ok (.invokevirtual 75, 3) := by decide +kernel
theorem eX9_doubled_50 : decode cX9_doubled 50 = .ok (.invokestatic 46, 3) := by decide +kernel
theorem eX9_doubled_58 : decode cX9_doubled 58 = .ok (.goto (-54), 3) := by decide +kernel
theorem eX9_doubled_62 : decode cX9_doubled 62 = .ok (.ireturn, 1) := by decide +kernel
theorem kX9_areaOf_0 : am_dec cX9_areaOf 0 [.aload_n 0, .iload_n 1] 2 = true := by decide +kernel
theorem kX9_areaOf_5 : am_dec cX9_areaOf 5 [.istore_n 2, .iload_n 2] 7 = true := by decide +kernel
theorem kX9_areaOf_10 : am_dec cX9_areaOf 10 [.iload_n 2, .ineg] 12 = true := by decide +kernel
theorem kX9_areaOf_15 : am_dec cX9_areaOf 15 [.iload_n 2] 16 = true := by decide +kernel
theorem eX9_areaOf_2 : decode cX9_areaOf 2 = .ok (.invokevirtual 258, 3) := by decide +kernel
theorem eX9_areaOf_7 : decode cX9_areaOf 7 = .ok (.ifCond .ge 8, 3) := by decide +kernel
theorem eX9_areaOf_12 : decode cX9_areaOf 12 = .ok (.goto 4, 3) := by decide +kernel
theorem eX9_areaOf_16 : decode cX9_areaOf 16 = .ok (.ireturn, 1) := by decide +kernel
theorem kX9_sideOf_0 : am_dec cX9_sideOf 0 [.iconst 0, .istore 4, .iconst 0, .istore 5] 6 = true := by decide +kernel
theorem kX9_sideOf_6 : am_dec cX9_sideOf 6 [.iload 5, .aload_n 0, .iload_n 1] 10 = true := by decide +kernel
theorem kX9_sideOf_16 : am_dec cX9_sideOf 16 [.aload_n 0, .iload_n 1, .iload 5] 20 = true := by decide +kernel
theorem kX9_sideOf_23 : am_dec cX9_sideOf 23 [.istore 6, .aload_n 0, .iload_n 1, .iload 5] 29 = true := by decide +kernel
theorem kX9_sideOf_32 : am_dec cX9_sideOf 32 [.istore 7, .aload_n 0, .iload_n 1, .aload_n 0, .iload_n 1, .iload 5] 40 = true := by decide +kernel
theorem kX9_sideOf_46 : am_dec cX9_sideOf 46 [.istore 8, .aload_n 0, .iload_n 1, .aload_n 0, .iload_n 1, .iload 5] 54 = true := by decide +kernel
theorem kX9_sideOf_60 : am_dec cX9_sideOf 60 [.istore 9, .iload 6, .iload 7, .iload 8, .iload 9, .iload_n 2, .iload_n 3] 72 = true := by decide +kernel
theorem kX9_sideOf_78 : am_dec cX9_sideOf 78 [.iconst 1] 79 = true := by decide +kernel
theorem kX9_sideOf_80 : am_dec cX9_sideOf 80 [.iload 7, .iload_n 3] 83 = true := by decide +kernel
theorem kX9_sideOf_86 : am_dec cX9_sideOf 86 [.iconst 1] 87 = true := by decide +kernel
theorem kX9_sideOf_90 : am_dec cX9_sideOf 90 [.iconst 0] 91 = true := by decide +kernel
theorem kX9_sideOf_91 : am_dec cX9_sideOf 91 [.iload 9, .iload_n 3] 94 = true := by decide +kernel
theorem kX9_sideOf_97 : am_dec cX9_sideOf 97 [.iconst 1] 98 = true := by decide +kernel
theorem kX9_sideOf_101 : am_dec cX9_sideOf 101 [.iconst 0] 102 = true := by decide +kernel
theorem kX9_sideOf_108 : am_dec cX9_sideOf 108 [.iload 6, .iload 7, .iload 8, .iload 9, .iload_n 2, .iload_n 3] 118 = true := by decide +kernel
theorem kX9_sideOf_121 : am_dec cX9_sideOf 121 [.istore 10, .iload 9, .iload 7] 127 = true := by decide +kernel
theorem kX9_sideOf_130 : am_dec cX9_sideOf 130 [.iload 10] 132 = true := by decide +kernel
theorem kX9_sideOf_138 : am_dec cX9_sideOf 138 [.iload 10] 140 = true := by decide +kernel
theorem kX9_sideOf_143 : am_dec cX9_sideOf 143 [.iload 4] 145 = true := by decide +kernel
theorem kX9_sideOf_148 : am_dec cX9_sideOf 148 [.iconst 1] 149 = true := by decide +kernel
theorem kX9_sideOf_152 : am_dec cX9_sideOf 152 [.iconst 0] 153 = true := by decide +kernel
theorem kX9_sideOf_153 : am_dec cX9_sideOf 153 [.istore 4] 155 = true := by decide +kernel
theorem kX9_sideOf_155 : am_dec cX9_sideOf 155 [.iinc 5 1] 158 = true := by decide +kernel
theorem kX9_sideOf_161 : am_dec cX9_sideOf 161 [.iload 4] 163 = true := by decide +kernel
theorem kX9_sideOf_166 : am_dec cX9_sideOf 166 [.iconst 2] 167 = true := by decide +kernel
theorem kX9_sideOf_170 : am_dec cX9_sideOf 170 [.iconst 0] 171 = true := by decide +kernel
theorem eX9_sideOf_10 : decode cX9_sideOf 10 = .ok (.invokevirtual 39, 3) := by decide +kernel
theorem eX9_sideOf_13 : decode cX9_sideOf 13 = .ok (.if_icmp .ge 148, 3) := by decide +kernel
theorem eX9_sideOf_20 : decode cX9_sideOf 20 = .ok (.invokevirtual 72, 3) := by decide +kernel
theorem eX9_sideOf_29 : decode cX9_sideOf 29 = .ok (.invokevirtual 75, 3) := by decide +kernel
theorem eX9_sideOf_40 : decode cX9_sideOf 40 = .ok (.invokevirtual 84, 3) := by decide +kernel
theorem eX9_sideOf_43 : decode cX9_sideOf 43 = .ok (.invokevirtual 72, 3) := by decide +kernel
theorem eX9_sideOf_54 : decode cX9_sideOf 54 = .ok (.invokevirtual 84, 3) := by decide +kernel
theorem eX9_sideOf_57 : decode cX9_sideOf 57 = .ok (.invokevirtual 75, 3) := by decide +kernel
theorem eX9_sideOf_72 : decode cX9_sideOf 72 = .ok (.invokestatic 61, 3) := by decide +kernel
theorem eX9_sideOf_75 : decode cX9_sideOf 75 = .ok (.ifCond .eq 5, 3) := by decide +kernel
theorem eX9_sideOf_79 : decode cX9_sideOf 79 = .ok (.ireturn, 1) := by decide +kernel
theorem eX9_sideOf_83 : decode cX9_sideOf 83 = .ok (.if_icmp .le 7, 3) := by decide +kernel
theorem eX9_sideOf_87 : decode cX9_sideOf 87 = .ok (.goto 4, 3) := by decide +kernel
theorem eX9_sideOf_94 : decode cX9_sideOf 94 = .ok (.if_icmp .le 7, 3) := by decide +kernel
theorem eX9_sideOf_98 : decode cX9_sideOf 98 = .ok (.goto 4, 3) := by decide +kernel
theorem eX9_sideOf_102 : decode cX9_sideOf 102 = .ok (.if_icmp .ne 6, 3) := by decide +kernel
theorem eX9_sideOf_105 : decode cX9_sideOf 105 = .ok (.goto 50, 3) := by decide +kernel
theorem eX9_sideOf_118 : decode cX9_sideOf 118 = .ok (.invokestatic 46, 3) := by decide +kernel
theorem eX9_sideOf_127 : decode cX9_sideOf 127 = .ok (.if_icmp .le 11, 3) := by decide +kernel
theorem eX9_sideOf_132 : decode cX9_sideOf 132 = .ok (.ifCond .le 23, 3) := by decide +kernel
theorem eX9_sideOf_135 : decode cX9_sideOf 135 = .ok (.goto 8, 3) := by decide +kernel
theorem eX9_sideOf_140 : decode cX9_sideOf 140 = .ok (.ifCond .ge 15, 3) := by decide +kernel
theorem eX9_sideOf_145 : decode cX9_sideOf 145 = .ok (.ifCond .ne 7, 3) := by decide +kernel
theorem eX9_sideOf_149 : decode cX9_sideOf 149 = .ok (.goto 4, 3) := by decide +kernel
theorem eX9_sideOf_158 : decode cX9_sideOf 158 = .ok (.goto (-152), 3) := by decide +kernel
theorem eX9_sideOf_163 : decode cX9_sideOf 163 = .ok (.ifCond .eq 7, 3) := by decide +kernel
theorem eX9_sideOf_167 : decode cX9_sideOf 167 = .ok (.goto 4, 3) := by decide +kernel
theorem eX9_sideOf_171 : decode cX9_sideOf 171 = .ok (.ireturn, 1) := by decide +kernel
theorem kX9_countAll_0 : am_dec cX9_countAll 0 [.iconst 0, .istore_n 3, .iconst 0, .istore 4] 5 = true := by decide +kernel
theorem kX9_countAll_5 : am_dec cX9_countAll 5 [.iload 4, .aload_n 0] 8 = true := by decide +kernel
theorem kX9_countAll_11 : am_dec cX9_countAll 11 [.iconst 0] 12 = true := by decide +kernel
theorem kX9_countAll_16 : am_dec cX9_countAll 16 [.iconst 0, .istore 5] 19 = true := by decide +kernel
theorem kX9_countAll_19 : am_dec cX9_countAll 19 [.iload 5, .aload_n 0] 22 = true := by decide +kernel
theorem kX9_countAll_25 : am_dec cX9_countAll 25 [.iconst 1] 26 = true := by decide +kernel
theorem kX9_countAll_30 : am_dec cX9_countAll 30 [.iload_n 3, .aload_n 0, .iload_n 1, .iload 4, .iload 5] 37 = true := by decide +kernel
theorem kX9_countAll_40 : am_dec cX9_countAll 40 [.iload_n 2] 41 = true := by decide +kernel
theorem kX9_countAll_44 : am_dec cX9_countAll 44 [.iconst 1] 45 = true := by decide +kernel
theorem kX9_countAll_48 : am_dec cX9_countAll 48 [.iconst 0] 49 = true := by decide +kernel
theorem kX9_countAll_49 : am_dec cX9_countAll 49 [.iadd, .istore_n 3, .iinc 5 1] 54 = true := by decide +kernel
theorem kX9_countAll_57 : am_dec cX9_countAll 57 [.iinc 4 1] 60 = true := by decide +kernel
theorem kX9_countAll_63 : am_dec cX9_countAll 63 [.iload_n 3] 64 = true := by decide +kernel
theorem eX9_countAll_8 : decode cX9_countAll 8 = .ok (.getfield 17, 3) := by decide +kernel
theorem eX9_countAll_12 : decode cX9_countAll 12 = .ok (.iaload, 1) := by decide +kernel
theorem eX9_countAll_13 : decode cX9_countAll 13 = .ok (.if_icmp .gt 50, 3) := by decide +kernel
theorem eX9_countAll_22 : decode cX9_countAll 22 = .ok (.getfield 17, 3) := by decide +kernel
theorem eX9_countAll_26 : decode cX9_countAll 26 = .ok (.iaload, 1) := by decide +kernel
theorem eX9_countAll_27 : decode cX9_countAll 27 = .ok (.if_icmp .gt 30, 3) := by decide +kernel
theorem eX9_countAll_37 : decode cX9_countAll 37 = .ok (.invokevirtual 261, 3) := by decide +kernel
theorem eX9_countAll_41 : decode cX9_countAll 41 = .ok (.if_icmp .ne 7, 3) := by decide +kernel
theorem eX9_countAll_45 : decode cX9_countAll 45 = .ok (.goto 4, 3) := by decide +kernel
theorem eX9_countAll_54 : decode cX9_countAll 54 = .ok (.goto (-35), 3) := by decide +kernel
theorem eX9_countAll_60 : decode cX9_countAll 60 = .ok (.goto (-55), 3) := by decide +kernel
theorem eX9_countAll_64 : decode cX9_countAll 64 = .ok (.ireturn, 1) := by decide +kernel
theorem kX9_dentsOf_0 : am_dec cX9_dentsOf 0 [.iconst 0, .istore_n 2, .aload_n 0, .iload_n 1] 4 = true := by decide +kernel
theorem kX9_dentsOf_10 : am_dec cX9_dentsOf 10 [.iconst 1] 11 = true := by decide +kernel
theorem kX9_dentsOf_14 : am_dec cX9_dentsOf 14 [.iconst 0] 15 = true := by decide +kernel
theorem kX9_dentsOf_15 : am_dec cX9_dentsOf 15 [.istore_n 3, .iconst 0, .istore 4] 19 = true := by decide +kernel
theorem kX9_dentsOf_19 : am_dec cX9_dentsOf 19 [.iload 4, .aload_n 0, .iload_n 1] 23 = true := by decide +kernel
theorem kX9_dentsOf_29 : am_dec cX9_dentsOf 29 [.aload_n 0, .iload_n 1, .iload 4] 33 = true := by decide +kernel
theorem kX9_dentsOf_36 : am_dec cX9_dentsOf 36 [.istore 5, .aload_n 0, .iload_n 1, .iload 4] 42 = true := by decide +kernel
theorem kX9_dentsOf_45 : am_dec cX9_dentsOf 45 [.istore 6, .aload_n 0, .iload_n 1, .iload 5] 51 = true := by decide +kernel
theorem kX9_dentsOf_54 : am_dec cX9_dentsOf 54 [.aload_n 0, .iload_n 1, .iload 5] 58 = true := by decide +kernel
theorem kX9_dentsOf_61 : am_dec cX9_dentsOf 61 [.aload_n 0, .iload_n 1, .iload 4] 65 = true := by decide +kernel
theorem kX9_dentsOf_68 : am_dec cX9_dentsOf 68 [.aload_n 0, .iload_n 1, .iload 4] 72 = true := by decide +kernel
theorem kX9_dentsOf_75 : am_dec cX9_dentsOf 75 [.aload_n 0, .iload_n 1, .iload 6] 79 = true := by decide +kernel
theorem kX9_dentsOf_82 : am_dec cX9_dentsOf 82 [.aload_n 0, .iload_n 1, .iload 6] 86 = true := by decide +kernel
theorem kX9_dentsOf_92 : am_dec cX9_dentsOf 92 [.istore 7, .iload_n 2, .iload_n 3] 96 = true := by decide +kernel
theorem kX9_dentsOf_99 : am_dec cX9_dentsOf 99 [.iload 7] 101 = true := by decide +kernel
theorem kX9_dentsOf_104 : am_dec cX9_dentsOf 104 [.iconst 1] 105 = true := by decide +kernel
theorem kX9_dentsOf_108 : am_dec cX9_dentsOf 108 [.iconst 0] 109 = true := by decide +kernel
theorem kX9_dentsOf_112 : am_dec cX9_dentsOf 112 [.iload 7] 114 = true := by decide +kernel
theorem kX9_dentsOf_117 : am_dec cX9_dentsOf 117 [.iconst 1] 118 = true := by decide +kernel
theorem kX9_dentsOf_121 : am_dec cX9_dentsOf 121 [.iconst 0] 122 = true := by decide +kernel
theorem kX9_dentsOf_122 : am_dec cX9_dentsOf 122 [.iadd, .istore_n 2, .iinc 4 1] 127 = true := by decide +kernel
theorem kX9_dentsOf_130 : am_dec cX9_dentsOf 130 [.iload_n 2] 131 = true := by decide +kernel
theorem eX9_dentsOf_4 : decode cX9_dentsOf 4 = .ok (.invokevirtual 258, 3) := by decide +kernel
theorem eX9_dentsOf_7 : decode cX9_dentsOf 7 = .ok (.ifCond .le 7, 3) := by decide +kernel
theorem eX9_dentsOf_11 : decode cX9_dentsOf 11 = .ok (.goto 4, 3) := by decide +kernel
theorem eX9_dentsOf_23 : decode cX9_dentsOf 23 = .ok (.invokevirtual 39, 3) := by decide +kernel
theorem eX9_dentsOf_26 : decode cX9_dentsOf 26 = .ok (.if_icmp .ge 104, 3) := by decide +kernel
theorem eX9_dentsOf_33 : decode cX9_dentsOf 33 = .ok (.invokevirtual 121, 3) := by decide +kernel
theorem eX9_dentsOf_42 : decode cX9_dentsOf 42 = .ok (.invokevirtual 84, 3) := by decide +kernel
theorem eX9_dentsOf_51 : decode cX9_dentsOf 51 = .ok (.invokevirtual 72, 3) := by decide +kernel
theorem eX9_dentsOf_58 : decode cX9_dentsOf 58 = .ok (.invokevirtual 75, 3) := by decide +kernel
theorem eX9_dentsOf_65 : decode cX9_dentsOf 65 = .ok (.invokevirtual 72, 3) := by decide +kernel
theorem eX9_dentsOf_72 : decode cX9_dentsOf 72 = .ok (.invokevirtual 75, 3) := by decide +kernel
theorem eX9_dentsOf_79 : decode cX9_dentsOf 79 = .ok (.invokevirtual 72, 3) := by decide +kernel
theorem eX9_dentsOf_86 : decode cX9_dentsOf 86 = .ok (.invokevirtual 75, 3) := by decide +kernel
theorem eX9_dentsOf_89 : decode cX9_dentsOf 89 = .ok (.invokestatic 46, 3) := by decide +kernel
theorem eX9_dentsOf_96 : decode cX9_dentsOf 96 = .ok (.ifCond .eq 16, 3) := by decide +kernel
theorem eX9_dentsOf_101 : decode cX9_dentsOf 101 = .ok (.ifCond .ge 7, 3) := by decide +kernel
theorem eX9_dentsOf_105 : decode cX9_dentsOf 105 = .ok (.goto 17, 3) := by decide +kernel
theorem eX9_dentsOf_109 : decode cX9_dentsOf 109 = .ok (.goto 13, 3) := by decide +kernel
theorem eX9_dentsOf_114 : decode cX9_dentsOf 114 = .ok (.ifCond .le 7, 3) := by decide +kernel
theorem eX9_dentsOf_118 : decode cX9_dentsOf 118 = .ok (.goto 4, 3) := by decide +kernel
theorem eX9_dentsOf_127 : decode cX9_dentsOf 127 = .ok (.goto (-108), 3) := by decide +kernel
theorem eX9_dentsOf_131 : decode cX9_dentsOf 131 = .ok (.ireturn, 1) := by decide +kernel
theorem kX9_around_0 : am_dec cX9_around 0 [.iconst (-1), .istore 4, .iconst 0, .istore 5] 6 = true := by decide +kernel
theorem kX9_around_6 : am_dec cX9_around 6 [.iload 5, .aload_n 0] 9 = true := by decide +kernel
theorem kX9_around_12 : am_dec cX9_around 12 [.iconst 3] 13 = true := by decide +kernel
theorem kX9_around_17 : am_dec cX9_around 17 [.iload 5, .iload_n 3] 20 = true := by decide +kernel
theorem kX9_around_23 : am_dec cX9_around 23 [.aload_n 0, .iload 5] 26 = true := by decide +kernel
theorem kX9_around_32 : am_dec cX9_around 32 [.aload_n 0, .iload 5, .iload_n 1, .iload_n 2] 37 = true := by decide +kernel
theorem kX9_around_40 : am_dec cX9_around 40 [.iconst 2] 41 = true := by decide +kernel
theorem kX9_around_44 : am_dec cX9_around 44 [.iload 4, .iconst (-1)] 47 = true := by decide +kernel
theorem kX9_around_50 : am_dec cX9_around 50 [.aload_n 0, .iload 5] 53 = true := by decide +kernel
theorem kX9_around_56 : am_dec cX9_around 56 [.aload_n 0, .iload 4] 59 = true := by decide +kernel
theorem kX9_around_65 : am_dec cX9_around 65 [.iload 5, .istore 4] 69 = true := by decide +kernel
theorem kX9_around_69 : am_dec cX9_around 69 [.iinc 5 1] 72 = true := by decide +kernel
theorem kX9_around_75 : am_dec cX9_around 75 [.iload 4] 77 = true := by decide +kernel
theorem eX9_around_9 : decode cX9_around 9 = .ok (.getfield 17, 3) := by decide +kernel
theorem eX9_around_13 : decode cX9_around 13 = .ok (.iaload, 1) := by decide +kernel
theorem eX9_around_14 : decode cX9_around 14 = .ok (.if_icmp .ge 61, 3) := by decide +kernel
theorem eX9_around_20 : decode cX9_around 20 = .ok (.if_icmp .eq 49, 3) := by decide +kernel
theorem eX9_around_26 : decode cX9_around 26 = .ok (.invokevirtual 42, 3) := by decide +kernel
theorem eX9_around_29 : decode cX9_around 29 = .ok (.ifCond .eq 40, 3) := by decide +kernel
theorem eX9_around_37 : decode cX9_around 37 = .ok (.invokevirtual 261, 3) := by decide +kernel
theorem eX9_around_41 : decode cX9_around 41 = .ok (.if_icmp .ne 28, 3) := by decide +kernel
theorem eX9_around_47 : decode cX9_around 47 = .ok (.if_icmp .eq 18, 3) := by decide +kernel
theorem eX9_around_53 : decode cX9_around 53 = .ok (.invokevirtual 264, 3) := by decide +kernel
theorem eX9_around_59 : decode cX9_around 59 = .ok (.invokevirtual 264, 3) := by decide +kernel
theorem eX9_around_62 : decode cX9_around 62 = .ok (.if_icmp .ge 7, 3) := by decide +kernel
theorem eX9_around_72 : decode cX9_around 72 = .ok (.goto (-66), 3) := by decide +kernel
theorem eX9_around_77 : decode cX9_around 77 = .ok (.ireturn, 1) := by decide +kernel
theorem kX9_claimerOf_0 : am_dec cX9_claimerOf 0 [.aload_n 0, .aload_n 0] 2 = true := by decide +kernel
theorem kX9_claimerOf_5 : am_dec cX9_claimerOf 5 [.bipush 6, .iconst 3, .iload_n 1, .imul, .iadd] 11 = true := by decide +kernel
theorem kX9_claimerOf_12 : am_dec cX9_claimerOf 12 [.aload_n 0] 13 = true := by decide +kernel
theorem kX9_claimerOf_16 : am_dec cX9_claimerOf 16 [.bipush 6, .iconst 3, .iload_n 1, .imul, .iadd, .iconst 1, .iadd] 24 = true := by decide +kernel
theorem kX9_claimerOf_25 : am_dec cX9_claimerOf 25 [.iconst (-1)] 26 = true := by decide +kernel
theorem eX9_claimerOf_2 : decode cX9_claimerOf 2 = .ok (.getfield 17, 3) := by decide +kernel
theorem eX9_claimerOf_11 : decode cX9_claimerOf 11 = .ok (.iaload, 1) := by decide +kernel
theorem eX9_claimerOf_13 : decode cX9_claimerOf 13 = .ok (.getfield 17, 3) := by decide +kernel
theorem eX9_claimerOf_24 : decode cX9_claimerOf 24 = .ok (.iaload, 1) := by decide +kernel
theorem eX9_claimerOf_26 : decode cX9_claimerOf 26 = .ok (.invokevirtual 267, 3) := by decide +kernel
theorem eX9_claimerOf_29 : decode cX9_claimerOf 29 = .ok (.ireturn, 1) := by decide +kernel
theorem kX9_claimedNow_0 : am_dec cX9_claimedNow 0 [.iconst 0, .istore_n 1, .iconst 0, .istore_n 2] 4 = true := by decide +kernel
theorem kX9_claimedNow_4 : am_dec cX9_claimedNow 4 [.iload_n 2, .aload_n 0] 6 = true := by decide +kernel
theorem kX9_claimedNow_9 : am_dec cX9_claimedNow 9 [.iconst 2] 10 = true := by decide +kernel
theorem kX9_claimedNow_14 : am_dec cX9_claimedNow 14 [.iload_n 1, .aload_n 0, .iload_n 2] 17 = true := by decide +kernel
theorem kX9_claimedNow_20 : am_dec cX9_claimedNow 20 [.iconst (-1)] 21 = true := by decide +kernel
theorem kX9_claimedNow_24 : am_dec cX9_claimedNow 24 [.iconst 0] 25 = true := by decide +kernel
theorem kX9_claimedNow_28 : am_dec cX9_claimedNow 28 [.iconst 1] 29 = true := by decide +kernel
theorem kX9_claimedNow_29 : am_dec cX9_claimedNow 29 [.iadd, .istore_n 1, .iinc 2 1] 34 = true := by decide +kernel
theorem kX9_claimedNow_37 : am_dec cX9_claimedNow 37 [.iload_n 1] 38 = true := by decide +kernel
theorem eX9_claimedNow_6 : decode cX9_claimedNow 6 = .ok (.getfield 17, 3) := by decide +kernel
theorem eX9_claimedNow_10 : decode cX9_claimedNow 10 = .ok (.iaload, 1) := by decide +kernel
theorem eX9_claimedNow_11 : decode cX9_claimedNow 11 = .ok (.if_icmp .ge 26, 3) := by decide +kernel
theorem eX9_claimedNow_17 : decode cX9_claimedNow 17 = .ok (.invokevirtual 270, 3) := by decide +kernel
theorem eX9_claimedNow_21 : decode cX9_claimedNow 21 = .ok (.if_icmp .ne 7, 3) := by decide +kernel
theorem eX9_claimedNow_25 : decode cX9_claimedNow 25 = .ok (.goto 4, 3) := by decide +kernel
theorem eX9_claimedNow_34 : decode cX9_claimedNow 34 = .ok (.goto (-30), 3) := by decide +kernel
theorem eX9_claimedNow_38 : decode cX9_claimedNow 38 = .ok (.ireturn, 1) := by decide +kernel
theorem kX9_limited_0 : am_dec cX9_limited 0 [.lload_n 0] 1 = true := by decide +kernel
theorem kX9_limited_14 : am_dec cX9_limited 14 [.lload_n 0] 15 = true := by decide +kernel
theorem kX9_limited_28 : am_dec cX9_limited 28 [.lload_n 0] 29 = true := by decide +kernel
theorem eX9_limited_1 : decode cX9_limited 1 = .ok (.ldc2_w 273, 3) := by decide +kernel
theorem eX9_limited_4 : decode cX9_limited 4 = .ok (.lcmp, 1) := by decide +kernel
theorem eX9_limited_5 : decode cX9_limited 5 = .ok (.ifCond .le 9, 3) := by decide +kernel
theorem eX9_limited_8 : decode cX9_limited 8 = .ok (.ldc2_w 273, 3) := by decide +kernel
theorem eX9_limited_11 : decode cX9_limited 11 = .ok (.goto 18, 3) := by decide +kernel
theorem eX9_limited_15 : decode cX9_limited 15 = .ok (.ldc2_w 275, 3) := by decide +kernel
theorem eX9_limited_18 : decode cX9_limited 18 = .ok (.lcmp, 1) := by decide +kernel
theorem eX9_limited_19 : decode cX9_limited 19 = .ok (.ifCond .ge 9, 3) := by decide +kernel
theorem eX9_limited_22 : decode cX9_limited 22 = .ok (.ldc2_w 275, 3) := by decide +kernel
theorem eX9_limited_25 : decode cX9_limited 25 = .ok (.goto 4, 3) := by decide +kernel
theorem eX9_limited_29 : decode cX9_limited 29 = .ok (.lreturn, 1) := by decide +kernel
theorem kX9_operate_0 : am_dec cX9_operate 0 [.iload_n 0, .iconst 5] 2 = true := by decide +kernel
theorem kX9_operate_5 : am_dec cX9_operate 5 [.lload_n 3, .lconst 0] 7 = true := by decide +kernel
theorem kX9_operate_11 : am_dec cX9_operate 11 [.lconst 0] 12 = true := by decide +kernel
theorem kX9_operate_15 : am_dec cX9_operate 15 [.lload_n 1, .lload_n 3] 17 = true := by decide +kernel
theorem kX9_operate_19 : am_dec cX9_operate 19 [.iload_n 0, .iconst 2] 21 = true := by decide +kernel
theorem kX9_operate_24 : am_dec cX9_operate 24 [.lload_n 1, .lload_n 3, .ladd] 27 = true := by decide +kernel
theorem kX9_operate_30 : am_dec cX9_operate 30 [.iload_n 0, .iconst 3] 32 = true := by decide +kernel
theorem kX9_operate_35 : am_dec cX9_operate 35 [.lload_n 1, .lload_n 3, .lsub] 38 = true := by decide +kernel
theorem kX9_operate_41 : am_dec cX9_operate 41 [.lload_n 1, .lload_n 3, .lmul] 44 = true := by decide +kernel
theorem eX9_operate_2 : decode cX9_operate 2 = .ok (.if_icmp .ne 17, 3) := by decide +kernel
theorem eX9_operate_7 : decode cX9_operate 7 = .ok (.lcmp, 1) := by decide +kernel
theorem eX9_operate_8 : decode cX9_operate 8 = .ok (.ifCond .ne 7, 3) := by decide +kernel
theorem eX9_operate_12 : decode cX9_operate 12 = .ok (.goto 6, 3) := by decide +kernel
theorem eX9_operate_17 : decode cX9_operate 17 = .ok (.ldiv, 1) := by decide +kernel
theorem eX9_operate_18 : decode cX9_operate 18 = .ok (.lreturn, 1) := by decide +kernel
theorem eX9_operate_21 : decode cX9_operate 21 = .ok (.if_icmp .ne 9, 3) := by decide +kernel
theorem eX9_operate_27 : decode cX9_operate 27 = .ok (.goto 17, 3) := by decide +kernel
theorem eX9_operate_32 : decode cX9_operate 32 = .ok (.if_icmp .ne 9, 3) := by decide +kernel
theorem eX9_operate_38 : decode cX9_operate 38 = .ok (.goto 6, 3) := by decide +kernel
theorem eX9_operate_44 : decode cX9_operate 44 = .ok (.invokestatic 277, 3) := by decide +kernel
theorem eX9_operate_47 : decode cX9_operate 47 = .ok (.lreturn, 1) := by decide +kernel
theorem kX9_scoreOf_0 : am_dec cX9_scoreOf 0 [.iconst 0, .istore_n 2, .aload_n 0, .iload_n 1] 4 = true := by decide +kernel
theorem kX9_scoreOf_7 : am_dec cX9_scoreOf 7 [.istore_n 3, .iconst 0, .istore 4, .aload_n 0, .iload_n 1] 13 = true := by decide +kernel
theorem kX9_scoreOf_16 : am_dec cX9_scoreOf 16 [.istore 5, .aload_n 0] 19 = true := by decide +kernel
theorem kX9_scoreOf_22 : am_dec cX9_scoreOf 22 [.iconst 4] 23 = true := by decide +kernel
theorem kX9_scoreOf_24 : am_dec cX9_scoreOf 24 [.iconst 1] 25 = true := by decide +kernel
theorem kX9_scoreOf_28 : am_dec cX9_scoreOf 28 [.aload_n 0, .iload_n 1, .iconst 2] 31 = true := by decide +kernel
theorem kX9_scoreOf_37 : am_dec cX9_scoreOf 37 [.iconst 0] 38 = true := by decide +kernel
theorem kX9_scoreOf_38 : am_dec cX9_scoreOf 38 [.istore 6, .iconst 0, .istore 7] 43 = true := by decide +kernel
theorem kX9_scoreOf_43 : am_dec cX9_scoreOf 43 [.iload 7, .aload_n 0] 46 = true := by decide +kernel
theorem kX9_scoreOf_49 : am_dec cX9_scoreOf 49 [.iconst 2] 50 = true := by decide +kernel
theorem kX9_scoreOf_54 : am_dec cX9_scoreOf 54 [.iload 4, .aload_n 0, .iload 7] 59 = true := by decide +kernel
theorem kX9_scoreOf_62 : am_dec cX9_scoreOf 62 [.iload_n 1] 63 = true := by decide +kernel
theorem kX9_scoreOf_66 : am_dec cX9_scoreOf 66 [.aload_n 0] 67 = true := by decide +kernel
theorem kX9_scoreOf_70 : am_dec cX9_scoreOf 70 [.bipush 6, .iconst 3, .iload 7, .imul, .iadd, .iconst 2, .iadd] 79 = true := by decide +kernel
theorem kX9_scoreOf_83 : am_dec cX9_scoreOf 83 [.iconst 0] 84 = true := by decide +kernel
theorem kX9_scoreOf_84 : am_dec cX9_scoreOf 84 [.iadd, .istore 4, .iinc 7 1] 90 = true := by decide +kernel
theorem kX9_scoreOf_93 : am_dec cX9_scoreOf 93 [.aload_n 0] 94 = true := by decide +kernel
theorem kX9_scoreOf_97 : am_dec cX9_scoreOf 97 [.iconst 0, .iload_n 3, .iload 4, .iadd] 102 = true := by decide +kernel
theorem kX9_scoreOf_104 : am_dec cX9_scoreOf 104 [.iconst 0, .istore 7] 107 = true := by decide +kernel
theorem kX9_scoreOf_107 : am_dec cX9_scoreOf 107 [.iload 7, .aload_n 0] 110 = true := by decide +kernel
theorem kX9_scoreOf_113 : am_dec cX9_scoreOf 113 [.iconst 5] 114 = true := by decide +kernel
theorem kX9_scoreOf_118 : am_dec cX9_scoreOf 118 [.aload_n 0] 119 = true := by decide +kernel
theorem kX9_scoreOf_122 : am_dec cX9_scoreOf 122 [.sipush 228, .iload 7, .iadd] 128 = true := by decide +kernel
theorem kX9_scoreOf_129 : am_dec cX9_scoreOf 129 [.istore 8, .iload 8, .iconst 1] 134 = true := by decide +kernel
theorem kX9_scoreOf_137 : am_dec cX9_scoreOf 137 [.iinc 7 1, .aload_n 0] 141 = true := by decide +kernel
theorem kX9_scoreOf_144 : am_dec cX9_scoreOf 144 [.sipush 228, .iload 7, .iadd] 150 = true := by decide +kernel
theorem kX9_scoreOf_151 : am_dec cX9_scoreOf 151 [.istore 9, .aload_n 0] 154 = true := by decide +kernel
theorem kX9_scoreOf_157 : am_dec cX9_scoreOf 157 [.iload_n 2, .iload 8] 160 = true := by decide +kernel
theorem kX9_scoreOf_163 : am_dec cX9_scoreOf 163 [.iload 9] 165 = true := by decide +kernel
theorem kX9_scoreOf_169 : am_dec cX9_scoreOf 169 [.iload 9] 171 = true := by decide +kernel
theorem kX9_scoreOf_174 : am_dec cX9_scoreOf 174 [.iload_n 3] 175 = true := by decide +kernel
theorem kX9_scoreOf_179 : am_dec cX9_scoreOf 179 [.iload 9, .iconst 1] 182 = true := by decide +kernel
theorem kX9_scoreOf_185 : am_dec cX9_scoreOf 185 [.iload 4] 187 = true := by decide +kernel
theorem kX9_scoreOf_191 : am_dec cX9_scoreOf 191 [.iload 9, .iconst 2] 194 = true := by decide +kernel
theorem kX9_scoreOf_197 : am_dec cX9_scoreOf 197 [.aload_n 0, .iload_n 1] 199 = true := by decide +kernel
theorem kX9_scoreOf_206 : am_dec cX9_scoreOf 206 [.iload 9, .iconst 3] 209 = true := by decide +kernel
theorem kX9_scoreOf_212 : am_dec cX9_scoreOf 212 [.iload 5] 214 = true := by decide +kernel
theorem kX9_scoreOf_218 : am_dec cX9_scoreOf 218 [.iload 6] 220 = true := by decide +kernel
theorem kX9_scoreOf_222 : am_dec cX9_scoreOf 222 [.iinc 2 1] 225 = true := by decide +kernel
theorem kX9_scoreOf_228 : am_dec cX9_scoreOf 228 [.iinc 2 (-1), .aload_n 0] 232 = true := by decide +kernel
theorem kX9_scoreOf_235 : am_dec cX9_scoreOf 235 [.iload_n 2, .iconst 1, .isub, .iload 8, .aload_n 0] 241 = true := by decide +kernel
theorem kX9_scoreOf_244 : am_dec cX9_scoreOf 244 [.iload_n 2, .iconst 1, .isub] 247 = true := by decide +kernel
theorem kX9_scoreOf_248 : am_dec cX9_scoreOf 248 [.aload_n 0] 249 = true := by decide +kernel
theorem kX9_scoreOf_252 : am_dec cX9_scoreOf 252 [.iload_n 2] 253 = true := by decide +kernel
theorem kX9_scoreOf_258 : am_dec cX9_scoreOf 258 [.iinc 7 1] 261 = true := by decide +kernel
theorem kX9_scoreOf_264 : am_dec cX9_scoreOf 264 [.aload_n 0] 265 = true := by decide +kernel
theorem kX9_scoreOf_268 : am_dec cX9_scoreOf 268 [.iconst 0] 269 = true := by decide +kernel
theorem kX9_scoreOf_283 : am_dec cX9_scoreOf 283 [.aload_n 0] 284 = true := by decide +kernel
theorem kX9_scoreOf_287 : am_dec cX9_scoreOf 287 [.iconst 0] 288 = true := by decide +kernel
theorem kX9_scoreOf_302 : am_dec cX9_scoreOf 302 [.aload_n 0] 303 = true := by decide +kernel
theorem kX9_scoreOf_306 : am_dec cX9_scoreOf 306 [.iconst 0] 307 = true := by decide +kernel
theorem eX9_scoreOf_4 : decode cX9_scoreOf 4 = .ok (.invokevirtual 264, 3) := by decide +kernel
theorem eX9_scoreOf_13 : decode cX9_scoreOf 13 = .ok (.invokevirtual 281, 3) := by decide +kernel
theorem eX9_scoreOf_19 : decode cX9_scoreOf 19 = .ok (.getfield 17, 3) := by decide +kernel
theorem eX9_scoreOf_23 : decode cX9_scoreOf 23 = .ok (.iaload, 1) := by decide +kernel
theorem eX9_scoreOf_25 : decode cX9_scoreOf 25 = .ok (.if_icmp .ne 12, 3) := by decide +kernel
theorem eX9_scoreOf_31 : decode cX9_scoreOf 31 = .ok (.invokevirtual 284, 3) := by decide +kernel
theorem eX9_scoreOf_34 : decode cX9_scoreOf 34 = .ok (.goto 4, 3) := by decide +kernel
theorem eX9_scoreOf_46 : decode cX9_scoreOf 46 = .ok (.getfield 17, 3) := by decide +kernel
theorem eX9_scoreOf_50 : decode cX9_scoreOf 50 = .ok (.iaload, 1) := by decide +kernel
theorem eX9_scoreOf_51 : decode cX9_scoreOf 51 = .ok (.if_icmp .ge 42, 3) := by decide +kernel
theorem eX9_scoreOf_59 : decode cX9_scoreOf 59 = .ok (.invokevirtual 270, 3) := by decide +kernel
theorem eX9_scoreOf_63 : decode cX9_scoreOf 63 = .ok (.if_icmp .ne 20, 3) := by decide +kernel
theorem eX9_scoreOf_67 : decode cX9_scoreOf 67 = .ok (.getfield 17, 3) := by decide +kernel
theorem eX9_scoreOf_79 : decode cX9_scoreOf 79 = .ok (.iaload, 1) := by decide +kernel
theorem eX9_scoreOf_80 : decode cX9_scoreOf 80 = .ok (.goto 4, 3) := by decide +kernel
theorem eX9_scoreOf_90 : decode cX9_scoreOf 90 = .ok (.goto (-47), 3) := by decide +kernel
theorem eX9_scoreOf_94 : decode cX9_scoreOf 94 = .ok (.getfield 28, 3) := by decide +kernel
theorem eX9_scoreOf_102 : decode cX9_scoreOf 102 = .ok (.i2l, 1) := by decide +kernel
theorem eX9_scoreOf_103 : decode cX9_scoreOf 103 = .ok (.lastore, 1) := by decide +kernel
theorem eX9_scoreOf_110 : decode cX9_scoreOf 110 = .ok (.getfield 17, 3) := by decide +kernel
theorem eX9_scoreOf_114 : decode cX9_scoreOf 114 = .ok (.iaload, 1) := by decide +kernel
theorem eX9_scoreOf_115 : decode cX9_scoreOf 115 = .ok (.if_icmp .ge 149, 3) := by decide +kernel
theorem eX9_scoreOf_119 : decode cX9_scoreOf 119 = .ok (.getfield 17, 3) := by decide +kernel
theorem eX9_scoreOf_128 : decode cX9_scoreOf 128 = .ok (.iaload, 1) := by decide +kernel
theorem eX9_scoreOf_134 : decode cX9_scoreOf 134 = .ok (.if_icmp .gt 94, 3) := by decide +kernel
theorem eX9_scoreOf_141 : decode cX9_scoreOf 141 = .ok (.getfield 17, 3) := by decide +kernel
theorem eX9_scoreOf_150 : decode cX9_scoreOf 150 = .ok (.iaload, 1) := by decide +kernel
theorem eX9_scoreOf_154 : decode cX9_scoreOf 154 = .ok (.getfield 28, 3) := by decide +kernel
theorem eX9_scoreOf_160 : decode cX9_scoreOf 160 = .ok (.ifCond .ne 9, 3) := by decide +kernel
theorem eX9_scoreOf_165 : decode cX9_scoreOf 165 = .ok (.i2l, 1) := by decide +kernel
theorem eX9_scoreOf_166 : decode cX9_scoreOf 166 = .ok (.goto 55, 3) := by decide +kernel
theorem eX9_scoreOf_171 : decode cX9_scoreOf 171 = .ok (.ifCond .ne 8, 3) := by decide +kernel
theorem eX9_scoreOf_175 : decode cX9_scoreOf 175 = .ok (.i2l, 1) := by decide +kernel
theorem eX9_scoreOf_176 : decode cX9_scoreOf 176 = .ok (.goto 45, 3) := by decide +kernel
theorem eX9_scoreOf_182 : decode cX9_scoreOf 182 = .ok (.if_icmp .ne 9, 3) := by decide +kernel
theorem eX9_scoreOf_187 : decode cX9_scoreOf 187 = .ok (.i2l, 1) := by decide +kernel
theorem eX9_scoreOf_188 : decode cX9_scoreOf 188 = .ok (.goto 33, 3) := by decide +kernel
theorem eX9_scoreOf_194 : decode cX9_scoreOf 194 = .ok (.if_icmp .ne 12, 3) := by decide +kernel
theorem eX9_scoreOf_199 : decode cX9_scoreOf 199 = .ok (.invokevirtual 39, 3) := by decide +kernel
theorem eX9_scoreOf_202 : decode cX9_scoreOf 202 = .ok (.i2l, 1) := by decide +kernel
theorem eX9_scoreOf_203 : decode cX9_scoreOf 203 = .ok (.goto 18, 3) := by decide +kernel
theorem eX9_scoreOf_209 : decode cX9_scoreOf 209 = .ok (.if_icmp .ne 9, 3) := by decide +kernel
theorem eX9_scoreOf_214 : decode cX9_scoreOf 214 = .ok (.i2l, 1) := by decide +kernel
theorem eX9_scoreOf_215 : decode cX9_scoreOf 215 = .ok (.goto 6, 3) := by decide +kernel
theorem eX9_scoreOf_220 : decode cX9_scoreOf 220 = .ok (.i2l, 1) := by decide +kernel
theorem eX9_scoreOf_221 : decode cX9_scoreOf 221 = .ok (.lastore, 1) := by decide +kernel
theorem eX9_scoreOf_225 : decode cX9_scoreOf 225 = .ok (.goto 33, 3) := by decide +kernel
theorem eX9_scoreOf_232 : decode cX9_scoreOf 232 = .ok (.getfield 28, 3) := by decide +kernel
theorem eX9_scoreOf_241 : decode cX9_scoreOf 241 = .ok (.getfield 28, 3) := by decide +kernel
theorem eX9_scoreOf_247 : decode cX9_scoreOf 247 = .ok (.laload, 1) := by decide +kernel
theorem eX9_scoreOf_249 : decode cX9_scoreOf 249 = .ok (.getfield 28, 3) := by decide +kernel
theorem eX9_scoreOf_253 : decode cX9_scoreOf 253 = .ok (.laload, 1) := by decide +kernel
theorem eX9_scoreOf_254 : decode cX9_scoreOf 254 = .ok (.invokestatic 287, 3) := by decide +kernel
theorem eX9_scoreOf_257 : decode cX9_scoreOf 257 = .ok (.lastore, 1) := by decide +kernel
theorem eX9_scoreOf_261 : decode cX9_scoreOf 261 = .ok (.goto (-154), 3) := by decide +kernel
theorem eX9_scoreOf_265 : decode cX9_scoreOf 265 = .ok (.getfield 28, 3) := by decide +kernel
theorem eX9_scoreOf_269 : decode cX9_scoreOf 269 = .ok (.laload, 1) := by decide +kernel
theorem eX9_scoreOf_270 : decode cX9_scoreOf 270 = .ok (.ldc2_w 291, 3) := by decide +kernel
theorem eX9_scoreOf_273 : decode cX9_scoreOf 273 = .ok (.lcmp, 1) := by decide +kernel
theorem eX9_scoreOf_274 : decode cX9_scoreOf 274 = .ok (.ifCond .ge 9, 3) := by decide +kernel
theorem eX9_scoreOf_277 : decode cX9_scoreOf 277 = .ok (.ldc_w 293, 3) := by decide +kernel
theorem eX9_scoreOf_280 : decode cX9_scoreOf 280 = .ok (.goto 29, 3) := by decide +kernel
theorem eX9_scoreOf_284 : decode cX9_scoreOf 284 = .ok (.getfield 28, 3) := by decide +kernel
theorem eX9_scoreOf_288 : decode cX9_scoreOf 288 = .ok (.laload, 1) := by decide +kernel
theorem eX9_scoreOf_289 : decode cX9_scoreOf 289 = .ok (.ldc2_w 294, 3) := by decide +kernel
theorem eX9_scoreOf_292 : decode cX9_scoreOf 292 = .ok (.lcmp, 1) := by decide +kernel
theorem eX9_scoreOf_293 : decode cX9_scoreOf 293 = .ok (.ifCond .le 9, 3) := by decide +kernel
theorem eX9_scoreOf_296 : decode cX9_scoreOf 296 = .ok (.ldc_w 296, 3) := by decide +kernel
theorem eX9_scoreOf_299 : decode cX9_scoreOf 299 = .ok (.goto 10, 3) := by decide +kernel
theorem eX9_scoreOf_303 : decode cX9_scoreOf 303 = .ok (.getfield 28, 3) := by decide +kernel
theorem eX9_scoreOf_307 : decode cX9_scoreOf 307 = .ok (.laload, 1) := by decide +kernel
theorem eX9_scoreOf_308 : decode cX9_scoreOf 308 = .ok (.l2i, 1) := by decide +kernel
theorem eX9_scoreOf_309 : decode cX9_scoreOf 309 = .ok (.ireturn, 1) := by decide +kernel
theorem kX9_pointsOf_0 : am_dec cX9_pointsOf 0 [.iconst 0, .istore_n 2, .iconst 0, .istore_n 3] 4 = true := by decide +kernel
theorem kX9_pointsOf_4 : am_dec cX9_pointsOf 4 [.iload_n 3, .aload_n 0] 6 = true := by decide +kernel
theorem kX9_pointsOf_9 : am_dec cX9_pointsOf 9 [.iconst 3] 10 = true := by decide +kernel
theorem kX9_pointsOf_14 : am_dec cX9_pointsOf 14 [.iload_n 2, .aload_n 0, .iload_n 3] 17 = true := by decide +kernel
theorem kX9_pointsOf_23 : am_dec cX9_pointsOf 23 [.aload_n 0] 24 = true := by decide +kernel
theorem kX9_pointsOf_27 : am_dec cX9_pointsOf 27 [.iload_n 3] 28 = true := by decide +kernel
theorem kX9_pointsOf_32 : am_dec cX9_pointsOf 32 [.iload_n 1] 33 = true := by decide +kernel
theorem kX9_pointsOf_36 : am_dec cX9_pointsOf 36 [.aload_n 0, .iload_n 3] 38 = true := by decide +kernel
theorem kX9_pointsOf_44 : am_dec cX9_pointsOf 44 [.iconst 0] 45 = true := by decide +kernel
theorem kX9_pointsOf_45 : am_dec cX9_pointsOf 45 [.iadd, .istore_n 2, .iinc 3 1] 50 = true := by decide +kernel
theorem kX9_pointsOf_53 : am_dec cX9_pointsOf 53 [.iload_n 2] 54 = true := by decide +kernel
theorem eX9_pointsOf_6 : decode cX9_pointsOf 6 = .ok (.getfield 17, 3) := by decide +kernel
theorem eX9_pointsOf_10 : decode cX9_pointsOf 10 = .ok (.iaload, 1) := by decide +kernel
theorem eX9_pointsOf_11 : decode cX9_pointsOf 11 = .ok (.if_icmp .ge 42, 3) := by decide +kernel
theorem eX9_pointsOf_17 : decode cX9_pointsOf 17 = .ok (.invokevirtual 42, 3) := by decide +kernel
theorem eX9_pointsOf_20 : decode cX9_pointsOf 20 = .ok (.ifCond .eq 24, 3) := by decide +kernel
theorem eX9_pointsOf_24 : decode cX9_pointsOf 24 = .ok (.getfield 17, 3) := by decide +kernel
theorem eX9_pointsOf_28 : decode cX9_pointsOf 28 = .ok (.invokestatic 35, 3) := by decide +kernel
theorem eX9_pointsOf_31 : decode cX9_pointsOf 31 = .ok (.iaload, 1) := by decide +kernel
theorem eX9_pointsOf_33 : decode cX9_pointsOf 33 = .ok (.if_icmp .ne 11, 3) := by decide +kernel
theorem eX9_pointsOf_38 : decode cX9_pointsOf 38 = .ok (.invokevirtual 297, 3) := by decide +kernel
theorem eX9_pointsOf_41 : decode cX9_pointsOf 41 = .ok (.goto 4, 3) := by decide +kernel
theorem eX9_pointsOf_50 : decode cX9_pointsOf 50 = .ok (.goto (-46), 3) := by decide +kernel
theorem eX9_pointsOf_54 : decode cX9_pointsOf 54 = .ok (.ireturn, 1) := by decide +kernel
theorem kX9_noPolygon_0 : am_dec cX9_noPolygon 0 [.aload_n 0, .iload_n 1, .iconst 0, .aload_n 0] 4 = true := by decide +kernel
theorem kX9_noPolygon_7 : am_dec cX9_noPolygon 7 [.iconst 3] 8 = true := by decide +kernel
theorem kX9_noPolygon_9 : am_dec cX9_noPolygon 9 [.iconst 1, .isub] 11 = true := by decide +kernel
theorem kX9_noPolygon_17 : am_dec cX9_noPolygon 17 [.iconst 1] 18 = true := by decide +kernel
theorem kX9_noPolygon_21 : am_dec cX9_noPolygon 21 [.iconst 0] 22 = true := by decide +kernel
theorem kX9_noPolygon_22 : am_dec cX9_noPolygon 22 [.iconst 1] 23 = true := by decide +kernel
theorem eX9_noPolygon_4 : decode cX9_noPolygon 4 = .ok (.getfield 17, 3) := by decide +kernel
theorem eX9_noPolygon_8 : decode cX9_noPolygon 8 = .ok (.iaload, 1) := by decide +kernel
theorem eX9_noPolygon_11 : decode cX9_noPolygon 11 = .ok (.invokestatic 57, 3) := by decide +kernel
theorem eX9_noPolygon_14 : decode cX9_noPolygon 14 = .ok (.ifCond .ne 7, 3) := by decide +kernel
theorem eX9_noPolygon_18 : decode cX9_noPolygon 18 = .ok (.goto 4, 3) := by decide +kernel
theorem eX9_noPolygon_23 : decode cX9_noPolygon 23 = .ok (.invokevirtual 241, 3) := by decide +kernel
theorem eX9_noPolygon_26 : decode cX9_noPolygon 26 = .ok (.ireturn, 1) := by decide +kernel
theorem kX9_noPoint_0 : am_dec cX9_noPoint 0 [.aload_n 0, .iload_n 1, .iconst 0, .aload_n 0] 4 = true := by decide +kernel
theorem kX9_noPoint_7 : am_dec cX9_noPoint 7 [.iconst 0] 8 = true := by decide +kernel
theorem kX9_noPoint_15 : am_dec cX9_noPoint 15 [.iload_n 2, .iconst 0, .aload_n 0] 18 = true := by decide +kernel
theorem kX9_noPoint_21 : am_dec cX9_noPoint 21 [.iconst 1] 22 = true := by decide +kernel
theorem kX9_noPoint_29 : am_dec cX9_noPoint 29 [.iconst 1] 30 = true := by decide +kernel
theorem kX9_noPoint_33 : am_dec cX9_noPoint 33 [.iconst 0] 34 = true := by decide +kernel
theorem kX9_noPoint_34 : am_dec cX9_noPoint 34 [.iload_n 3] 35 = true := by decide +kernel
theorem eX9_noPoint_4 : decode cX9_noPoint 4 = .ok (.getfield 17, 3) := by decide +kernel
theorem eX9_noPoint_8 : decode cX9_noPoint 8 = .ok (.iaload, 1) := by decide +kernel
theorem eX9_noPoint_9 : decode cX9_noPoint 9 = .ok (.invokestatic 57, 3) := by decide +kernel
theorem eX9_noPoint_12 : decode cX9_noPoint 12 = .ok (.ifCond .eq 17, 3) := by decide +kernel
theorem eX9_noPoint_18 : decode cX9_noPoint 18 = .ok (.getfield 17, 3) := by decide +kernel
theorem eX9_noPoint_22 : decode cX9_noPoint 22 = .ok (.iaload, 1) := by decide +kernel
theorem eX9_noPoint_23 : decode cX9_noPoint 23 = .ok (.invokestatic 57, 3) := by decide +kernel
theorem eX9_noPoint_26 : decode cX9_noPoint 26 = .ok (.ifCond .ne 7, 3) := by decide +kernel
theorem eX9_noPoint_30 : decode cX9_noPoint 30 = .ok (.goto 4, 3) := by decide +kernel
theorem eX9_noPoint_35 : decode cX9_noPoint 35 = .ok (.invokevirtual 241, 3) := by decide +kernel
theorem eX9_noPoint_38 : decode cX9_noPoint 38 = .ok (.ireturn, 1) := by decide +kernel
theorem kX9_noClosed_0 : am_dec cX9_noClosed 0 [.aload_n 0, .iload_n 1] 2 = true := by decide +kernel
theorem kX9_noClosed_8 : am_dec cX9_noClosed 8 [.aload_n 0, .aload_n 0, .iload_n 1] 11 = true := by decide +kernel
theorem kX9_noClosed_17 : am_dec cX9_noClosed 17 [.iconst 1] 18 = true := by decide +kernel
theorem kX9_noClosed_21 : am_dec cX9_noClosed 21 [.iconst 0] 22 = true := by decide +kernel
theorem kX9_noClosed_22 : am_dec cX9_noClosed 22 [.iconst 2] 23 = true := by decide +kernel
theorem kX9_noClosed_29 : am_dec cX9_noClosed 29 [.iconst 1] 30 = true := by decide +kernel
theorem kX9_noClosed_33 : am_dec cX9_noClosed 33 [.iconst 0] 34 = true := by decide +kernel
theorem eX9_noClosed_2 : decode cX9_noClosed 2 = .ok (.invokevirtual 300, 3) := by decide +kernel
theorem eX9_noClosed_5 : decode cX9_noClosed 5 = .ok (.ifCond .ne 24, 3) := by decide +kernel
theorem eX9_noClosed_11 : decode cX9_noClosed 11 = .ok (.invokevirtual 42, 3) := by decide +kernel
theorem eX9_noClosed_14 : decode cX9_noClosed 14 = .ok (.ifCond .ne 7, 3) := by decide +kernel
theorem eX9_noClosed_18 : decode cX9_noClosed 18 = .ok (.goto 4, 3) := by decide +kernel
theorem eX9_noClosed_23 : decode cX9_noClosed 23 = .ok (.invokevirtual 241, 3) := by decide +kernel
theorem eX9_noClosed_26 : decode cX9_noClosed 26 = .ok (.ifCond .eq 7, 3) := by decide +kernel
theorem eX9_noClosed_30 : decode cX9_noClosed 30 = .ok (.goto 4, 3) := by decide +kernel
theorem eX9_noClosed_34 : decode cX9_noClosed 34 = .ok (.ireturn, 1) := by decide +kernel
theorem kX9_count_0 : am_dec cX9_count 0 [.aload_n 0, .iconst 0] 2 = true := by decide +kernel
theorem kX9_count_5 : am_dec cX9_count 5 [.aload_n 0, .iload_n 1, .iconst 0, .iconst 5] 9 = true := by decide +kernel
theorem kX9_count_15 : am_dec cX9_count 15 [.iconst 1] 16 = true := by decide +kernel
theorem kX9_count_19 : am_dec cX9_count 19 [.iconst 0] 20 = true := by decide +kernel
theorem kX9_count_20 : am_dec cX9_count 20 [.iconst 1] 21 = true := by decide +kernel
theorem kX9_count_27 : am_dec cX9_count 27 [.iconst 0] 28 = true := by decide +kernel
theorem kX9_count_29 : am_dec cX9_count 29 [.iload_n 1, .iconst 5] 31 = true := by decide +kernel
theorem kX9_count_34 : am_dec cX9_count 34 [.aload_n 0] 35 = true := by decide +kernel
theorem kX9_count_39 : am_dec cX9_count 39 [.iconst 0, .istore_n 2, .iconst 0, .istore_n 3] 43 = true := by decide +kernel
theorem kX9_count_43 : am_dec cX9_count 43 [.iload_n 3, .aload_n 0] 45 = true := by decide +kernel
theorem kX9_count_48 : am_dec cX9_count 48 [.iconst 3] 49 = true := by decide +kernel
theorem kX9_count_53 : am_dec cX9_count 53 [.iload_n 2, .aload_n 0, .iload_n 3] 56 = true := by decide +kernel
theorem kX9_count_62 : am_dec cX9_count 62 [.iconst 1] 63 = true := by decide +kernel
theorem kX9_count_66 : am_dec cX9_count 66 [.iconst 0] 67 = true := by decide +kernel
theorem kX9_count_67 : am_dec cX9_count 67 [.iadd, .istore_n 2, .iinc 3 1] 72 = true := by decide +kernel
theorem kX9_count_75 : am_dec cX9_count 75 [.iload_n 1, .iconst 4] 77 = true := by decide +kernel
theorem kX9_count_80 : am_dec cX9_count 80 [.iload_n 2] 81 = true := by decide +kernel
theorem kX9_count_84 : am_dec cX9_count 84 [.aload_n 0] 85 = true := by decide +kernel
theorem kX9_count_88 : am_dec cX9_count 88 [.iload_n 1] 89 = true := by decide +kernel
theorem eX9_count_2 : decode cX9_count 2 = .ok (.putfield 32, 3) := by decide +kernel
theorem eX9_count_9 : decode cX9_count 9 = .ok (.invokestatic 57, 3) := by decide +kernel
theorem eX9_count_12 : decode cX9_count 12 = .ok (.ifCond .ne 7, 3) := by decide +kernel
theorem eX9_count_16 : decode cX9_count 16 = .ok (.goto 4, 3) := by decide +kernel
theorem eX9_count_21 : decode cX9_count 21 = .ok (.invokevirtual 241, 3) := by decide +kernel
theorem eX9_count_24 : decode cX9_count 24 = .ok (.ifCond .eq 5, 3) := by decide +kernel
theorem eX9_count_28 : decode cX9_count 28 = .ok (.ireturn, 1) := by decide +kernel
theorem eX9_count_31 : decode cX9_count 31 = .ok (.if_icmp .ne 8, 3) := by decide +kernel
theorem eX9_count_35 : decode cX9_count 35 = .ok (.invokevirtual 303, 3) := by decide +kernel
theorem eX9_count_38 : decode cX9_count 38 = .ok (.ireturn, 1) := by decide +kernel
theorem eX9_count_45 : decode cX9_count 45 = .ok (.getfield 17, 3) := by decide +kernel
theorem eX9_count_49 : decode cX9_count 49 = .ok (.iaload, 1) := by decide +kernel
theorem eX9_count_50 : decode cX9_count 50 = .ok (.if_icmp .ge 25, 3) := by decide +kernel
theorem eX9_count_56 : decode cX9_count 56 = .ok (.invokevirtual 42, 3) := by decide +kernel
theorem eX9_count_59 : decode cX9_count 59 = .ok (.ifCond .eq 7, 3) := by decide +kernel
theorem eX9_count_63 : decode cX9_count 63 = .ok (.goto 4, 3) := by decide +kernel
theorem eX9_count_72 : decode cX9_count 72 = .ok (.goto (-29), 3) := by decide +kernel
theorem eX9_count_77 : decode cX9_count 77 = .ok (.if_icmp .ne 7, 3) := by decide +kernel
theorem eX9_count_81 : decode cX9_count 81 = .ok (.goto 9, 3) := by decide +kernel
theorem eX9_count_85 : decode cX9_count 85 = .ok (.getfield 17, 3) := by decide +kernel
theorem eX9_count_89 : decode cX9_count 89 = .ok (.iaload, 1) := by decide +kernel
theorem eX9_count_90 : decode cX9_count 90 = .ok (.ireturn, 1) := by decide +kernel
theorem kX9_stone_0 : am_dec cX9_stone 0 [.aload_n 0, .iconst 0] 2 = true := by decide +kernel
theorem kX9_stone_5 : am_dec cX9_stone 5 [.aload_n 0, .iload_n 1, .iconst 0, .aload_n 0] 9 = true := by decide +kernel
theorem kX9_stone_12 : am_dec cX9_stone 12 [.iconst 2] 13 = true := by decide +kernel
theorem kX9_stone_14 : am_dec cX9_stone 14 [.iconst 1, .isub] 16 = true := by decide +kernel
theorem kX9_stone_22 : am_dec cX9_stone 22 [.iconst 1] 23 = true := by decide +kernel
theorem kX9_stone_26 : am_dec cX9_stone 26 [.iconst 0] 27 = true := by decide +kernel
theorem kX9_stone_27 : am_dec cX9_stone 27 [.iconst 1] 28 = true := by decide +kernel
theorem kX9_stone_34 : am_dec cX9_stone 34 [.aload_n 0, .iload_n 2, .iconst 0, .iconst 3] 38 = true := by decide +kernel
theorem kX9_stone_44 : am_dec cX9_stone 44 [.iconst 1] 45 = true := by decide +kernel
theorem kX9_stone_48 : am_dec cX9_stone 48 [.iconst 0] 49 = true := by decide +kernel
theorem kX9_stone_49 : am_dec cX9_stone 49 [.iconst 2] 50 = true := by decide +kernel
theorem kX9_stone_56 : am_dec cX9_stone 56 [.iconst 0] 57 = true := by decide +kernel
theorem kX9_stone_58 : am_dec cX9_stone 58 [.iload_n 2, .iconst 3] 60 = true := by decide +kernel
theorem kX9_stone_63 : am_dec cX9_stone 63 [.aload_n 0, .iload_n 1] 65 = true := by decide +kernel
theorem kX9_stone_71 : am_dec cX9_stone 71 [.aload_n 0] 72 = true := by decide +kernel
theorem kX9_stone_75 : am_dec cX9_stone 75 [.bipush 6, .iconst 3, .iload_n 1, .imul, .iadd, .iload_n 2, .iadd] 83 = true := by decide +kernel
theorem eX9_stone_2 : decode cX9_stone 2 = .ok (.putfield 32, 3) := by decide +kernel
theorem eX9_stone_9 : decode cX9_stone 9 = .ok (.getfield 17, 3) := by decide +kernel
theorem eX9_stone_13 : decode cX9_stone 13 = .ok (.iaload, 1) := by decide +kernel
theorem eX9_stone_16 : decode cX9_stone 16 = .ok (.invokestatic 57, 3) := by decide +kernel
theorem eX9_stone_19 : decode cX9_stone 19 = .ok (.ifCond .ne 7, 3) := by decide +kernel
theorem eX9_stone_23 : decode cX9_stone 23 = .ok (.goto 4, 3) := by decide +kernel
theorem eX9_stone_28 : decode cX9_stone 28 = .ok (.invokevirtual 241, 3) := by decide +kernel
theorem eX9_stone_31 : decode cX9_stone 31 = .ok (.ifCond .ne 25, 3) := by decide +kernel
theorem eX9_stone_38 : decode cX9_stone 38 = .ok (.invokestatic 57, 3) := by decide +kernel
theorem eX9_stone_41 : decode cX9_stone 41 = .ok (.ifCond .ne 7, 3) := by decide +kernel
theorem eX9_stone_45 : decode cX9_stone 45 = .ok (.goto 4, 3) := by decide +kernel
theorem eX9_stone_50 : decode cX9_stone 50 = .ok (.invokevirtual 241, 3) := by decide +kernel
theorem eX9_stone_53 : decode cX9_stone 53 = .ok (.ifCond .eq 5, 3) := by decide +kernel
theorem eX9_stone_57 : decode cX9_stone 57 = .ok (.ireturn, 1) := by decide +kernel
theorem eX9_stone_60 : decode cX9_stone 60 = .ok (.if_icmp .ne 11, 3) := by decide +kernel
theorem eX9_stone_65 : decode cX9_stone 65 = .ok (.invokevirtual 270, 3) := by decide +kernel
theorem eX9_stone_68 : decode cX9_stone 68 = .ok (.goto 16, 3) := by decide +kernel
theorem eX9_stone_72 : decode cX9_stone 72 = .ok (.getfield 17, 3) := by decide +kernel
theorem eX9_stone_83 : decode cX9_stone 83 = .ok (.iaload, 1) := by decide +kernel
theorem eX9_stone_84 : decode cX9_stone 84 = .ok (.ireturn, 1) := by decide +kernel
theorem kX9_polygon_0 : am_dec cX9_polygon 0 [.aload_n 0, .iconst 0] 2 = true := by decide +kernel
theorem kX9_polygon_5 : am_dec cX9_polygon 5 [.aload_n 0, .iload_n 1] 7 = true := by decide +kernel
theorem kX9_polygon_13 : am_dec cX9_polygon 13 [.aload_n 0, .iload_n 2, .iconst 0, .iconst 2] 17 = true := by decide +kernel
theorem kX9_polygon_23 : am_dec cX9_polygon 23 [.iconst 1] 24 = true := by decide +kernel
theorem kX9_polygon_27 : am_dec cX9_polygon 27 [.iconst 0] 28 = true := by decide +kernel
theorem kX9_polygon_28 : am_dec cX9_polygon 28 [.iconst 2] 29 = true := by decide +kernel
theorem kX9_polygon_35 : am_dec cX9_polygon 35 [.iconst 0] 36 = true := by decide +kernel
theorem kX9_polygon_39 : am_dec cX9_polygon 39 [.aload_n 0] 40 = true := by decide +kernel
theorem kX9_polygon_43 : am_dec cX9_polygon 43 [.iload_n 1] 44 = true := by decide +kernel
theorem kX9_polygon_47 : am_dec cX9_polygon 47 [.iload_n 2, .iadd] 49 = true := by decide +kernel
theorem eX9_polygon_2 : decode cX9_polygon 2 = .ok (.putfield 32, 3) := by decide +kernel
theorem eX9_polygon_7 : decode cX9_polygon 7 = .ok (.invokevirtual 300, 3) := by decide +kernel
theorem eX9_polygon_10 : decode cX9_polygon 10 = .ok (.ifCond .ne 25, 3) := by decide +kernel
theorem eX9_polygon_17 : decode cX9_polygon 17 = .ok (.invokestatic 57, 3) := by decide +kernel
theorem eX9_polygon_20 : decode cX9_polygon 20 = .ok (.ifCond .ne 7, 3) := by decide +kernel
theorem eX9_polygon_24 : decode cX9_polygon 24 = .ok (.goto 4, 3) := by decide +kernel
theorem eX9_polygon_29 : decode cX9_polygon 29 = .ok (.invokevirtual 241, 3) := by decide +kernel
theorem eX9_polygon_32 : decode cX9_polygon 32 = .ok (.ifCond .eq 7, 3) := by decide +kernel
theorem eX9_polygon_36 : decode cX9_polygon 36 = .ok (.goto 14, 3) := by decide +kernel
theorem eX9_polygon_40 : decode cX9_polygon 40 = .ok (.getfield 17, 3) := by decide +kernel
theorem eX9_polygon_44 : decode cX9_polygon 44 = .ok (.invokestatic 35, 3) := by decide +kernel
theorem eX9_polygon_49 : decode cX9_polygon 49 = .ok (.iaload, 1) := by decide +kernel
theorem eX9_polygon_50 : decode cX9_polygon 50 = .ok (.ireturn, 1) := by decide +kernel
theorem kX9_cornerAt_0 : am_dec cX9_cornerAt 0 [.aload_n 0, .iconst 0] 2 = true := by decide +kernel
theorem kX9_cornerAt_5 : am_dec cX9_cornerAt 5 [.aload_n 0, .iload_n 1] 7 = true := by decide +kernel
theorem kX9_cornerAt_13 : am_dec cX9_cornerAt 13 [.aload_n 0, .iload_n 2, .iconst 0, .aload_n 0, .iload_n 1] 18 = true := by decide +kernel
theorem kX9_cornerAt_21 : am_dec cX9_cornerAt 21 [.iconst 1, .isub] 23 = true := by decide +kernel
theorem kX9_cornerAt_29 : am_dec cX9_cornerAt 29 [.iconst 1] 30 = true := by decide +kernel
theorem kX9_cornerAt_33 : am_dec cX9_cornerAt 33 [.iconst 0] 34 = true := by decide +kernel
theorem kX9_cornerAt_34 : am_dec cX9_cornerAt 34 [.iconst 2] 35 = true := by decide +kernel
theorem kX9_cornerAt_41 : am_dec cX9_cornerAt 41 [.iconst 0] 42 = true := by decide +kernel
theorem kX9_cornerAt_45 : am_dec cX9_cornerAt 45 [.bipush 100, .aload_n 0, .iload_n 1, .iload_n 2] 50 = true := by decide +kernel
theorem kX9_cornerAt_53 : am_dec cX9_cornerAt 53 [.imul, .aload_n 0, .iload_n 1, .iload_n 2] 57 = true := by decide +kernel
theorem kX9_cornerAt_60 : am_dec cX9_cornerAt 60 [.iadd] 61 = true := by decide +kernel
theorem eX9_cornerAt_2 : decode cX9_cornerAt 2 = .ok (.putfield 32, 3) := by decide +kernel
theorem eX9_cornerAt_7 : decode cX9_cornerAt 7 = .ok (.invokevirtual 300, 3) := by decide +kernel
theorem eX9_cornerAt_10 : decode cX9_cornerAt 10 = .ok (.ifCond .ne 31, 3) := by decide +kernel
theorem eX9_cornerAt_18 : decode cX9_cornerAt 18 = .ok (.invokevirtual 39, 3) := by decide +kernel
theorem eX9_cornerAt_23 : decode cX9_cornerAt 23 = .ok (.invokestatic 57, 3) := by decide +kernel
theorem eX9_cornerAt_26 : decode cX9_cornerAt 26 = .ok (.ifCond .ne 7, 3) := by decide +kernel
theorem eX9_cornerAt_30 : decode cX9_cornerAt 30 = .ok (.goto 4, 3) := by decide +kernel
theorem eX9_cornerAt_35 : decode cX9_cornerAt 35 = .ok (.invokevirtual 241, 3) := by decide +kernel
theorem eX9_cornerAt_38 : decode cX9_cornerAt 38 = .ok (.ifCond .eq 7, 3) := by decide +kernel
theorem eX9_cornerAt_42 : decode cX9_cornerAt 42 = .ok (.goto 19, 3) := by decide +kernel
theorem eX9_cornerAt_50 : decode cX9_cornerAt 50 = .ok (.invokevirtual 72, 3) := by decide +kernel
theorem eX9_cornerAt_57 : decode cX9_cornerAt 57 = .ok (.invokevirtual 75, 3) := by decide +kernel
theorem eX9_cornerAt_61 : decode cX9_cornerAt 61 = .ok (.ireturn, 1) := by decide +kernel
theorem kX9_reason_0 : am_dec cX9_reason 0 [.aload_n 0, .iconst 0] 2 = true := by decide +kernel
theorem kX9_reason_5 : am_dec cX9_reason 5 [.aload_n 0, .iload_n 1] 7 = true := by decide +kernel
theorem kX9_reason_13 : am_dec cX9_reason 13 [.aload_n 0, .iload_n 2, .iload_n 3, .iconst 2] 17 = true := by decide +kernel
theorem kX9_reason_23 : am_dec cX9_reason 23 [.iconst 0] 24 = true := by decide +kernel
theorem kX9_reason_27 : am_dec cX9_reason 27 [.aload_n 0, .iload_n 1, .iload_n 2, .iload_n 3] 31 = true := by decide +kernel
theorem eX9_reason_2 : decode cX9_reason 2 = .ok (.putfield 32, 3) := by decide +kernel
theorem eX9_reason_7 : decode cX9_reason 7 = .ok (.invokevirtual 300, 3) := by decide +kernel
theorem eX9_reason_10 : decode cX9_reason 10 = .ok (.ifCond .ne 13, 3) := by decide +kernel
theorem eX9_reason_17 : decode cX9_reason 17 = .ok (.invokevirtual 306, 3) := by decide +kernel
theorem eX9_reason_20 : decode cX9_reason 20 = .ok (.ifCond .eq 7, 3) := by decide +kernel
theorem eX9_reason_24 : decode cX9_reason 24 = .ok (.goto 10, 3) := by decide +kernel
theorem eX9_reason_31 : decode cX9_reason 31 = .ok (.invokevirtual 219, 3) := by decide +kernel
theorem eX9_reason_34 : decode cX9_reason 34 = .ok (.ireturn, 1) := by decide +kernel
theorem kX9_where_0 : am_dec cX9_where 0 [.aload_n 0, .iconst 0] 2 = true := by decide +kernel
theorem kX9_where_5 : am_dec cX9_where 5 [.aload_n 0, .iload_n 1] 7 = true := by decide +kernel
theorem kX9_where_13 : am_dec cX9_where 13 [.aload_n 0, .iload_n 2, .iload_n 3, .iconst 2] 17 = true := by decide +kernel
theorem kX9_where_23 : am_dec cX9_where 23 [.aload_n 0, .aload_n 0, .iload_n 1] 26 = true := by decide +kernel
theorem kX9_where_32 : am_dec cX9_where 32 [.iconst 1] 33 = true := by decide +kernel
theorem kX9_where_36 : am_dec cX9_where 36 [.iconst 0] 37 = true := by decide +kernel
theorem kX9_where_37 : am_dec cX9_where 37 [.iconst 3] 38 = true := by decide +kernel
theorem kX9_where_44 : am_dec cX9_where 44 [.iconst 0] 45 = true := by decide +kernel
theorem kX9_where_48 : am_dec cX9_where 48 [.aload_n 0, .iload_n 1, .iload_n 2, .iload_n 3] 52 = true := by decide +kernel
theorem eX9_where_2 : decode cX9_where 2 = .ok (.putfield 32, 3) := by decide +kernel
theorem eX9_where_7 : decode cX9_where 7 = .ok (.invokevirtual 300, 3) := by decide +kernel
theorem eX9_where_10 : decode cX9_where 10 = .ok (.ifCond .ne 34, 3) := by decide +kernel
theorem eX9_where_17 : decode cX9_where 17 = .ok (.invokevirtual 306, 3) := by decide +kernel
theorem eX9_where_20 : decode cX9_where 20 = .ok (.ifCond .ne 24, 3) := by decide +kernel
theorem eX9_where_26 : decode cX9_where 26 = .ok (.invokevirtual 42, 3) := by decide +kernel
theorem eX9_where_29 : decode cX9_where 29 = .ok (.ifCond .ne 7, 3) := by decide +kernel
theorem eX9_where_33 : decode cX9_where 33 = .ok (.goto 4, 3) := by decide +kernel
theorem eX9_where_38 : decode cX9_where 38 = .ok (.invokevirtual 241, 3) := by decide +kernel
theorem eX9_where_41 : decode cX9_where 41 = .ok (.ifCond .eq 7, 3) := by decide +kernel
theorem eX9_where_45 : decode cX9_where 45 = .ok (.goto 10, 3) := by decide +kernel
theorem eX9_where_52 : decode cX9_where 52 = .ok (.invokevirtual 261, 3) := by decide +kernel
theorem eX9_where_55 : decode cX9_where 55 = .ok (.ireturn, 1) := by decide +kernel
theorem kX9_area_0 : am_dec cX9_area 0 [.aload_n 0, .iconst 0] 2 = true := by decide +kernel
theorem kX9_area_5 : am_dec cX9_area 5 [.aload_n 0, .iload_n 1] 7 = true := by decide +kernel
theorem kX9_area_13 : am_dec cX9_area 13 [.iconst 0] 14 = true := by decide +kernel
theorem kX9_area_17 : am_dec cX9_area 17 [.aload_n 0, .iload_n 1] 19 = true := by decide +kernel
theorem eX9_area_2 : decode cX9_area 2 = .ok (.putfield 32, 3) := by decide +kernel
theorem eX9_area_7 : decode cX9_area 7 = .ok (.invokevirtual 309, 3) := by decide +kernel
theorem eX9_area_10 : decode cX9_area 10 = .ok (.ifCond .eq 7, 3) := by decide +kernel
theorem eX9_area_14 : decode cX9_area 14 = .ok (.goto 8, 3) := by decide +kernel
theorem eX9_area_19 : decode cX9_area 19 = .ok (.invokevirtual 264, 3) := by decide +kernel
theorem eX9_area_22 : decode cX9_area 22 = .ok (.ireturn, 1) := by decide +kernel
theorem kX9_border_0 : am_dec cX9_border 0 [.aload_n 0, .iconst 0] 2 = true := by decide +kernel
theorem kX9_border_5 : am_dec cX9_border 5 [.aload_n 0, .iload_n 1] 7 = true := by decide +kernel
theorem kX9_border_13 : am_dec cX9_border 13 [.iconst 0] 14 = true := by decide +kernel
theorem kX9_border_17 : am_dec cX9_border 17 [.aload_n 0, .iload_n 1, .iconst 1] 20 = true := by decide +kernel
theorem eX9_border_2 : decode cX9_border 2 = .ok (.putfield 32, 3) := by decide +kernel
theorem eX9_border_7 : decode cX9_border 7 = .ok (.invokevirtual 309, 3) := by decide +kernel
theorem eX9_border_10 : decode cX9_border 10 = .ok (.ifCond .eq 7, 3) := by decide +kernel
theorem eX9_border_14 : decode cX9_border 14 = .ok (.goto 9, 3) := by decide +kernel
theorem eX9_border_20 : decode cX9_border 20 = .ok (.invokevirtual 284, 3) := by decide +kernel
theorem eX9_border_23 : decode cX9_border 23 = .ok (.ireturn, 1) := by decide +kernel
theorem kX9_inner_0 : am_dec cX9_inner 0 [.aload_n 0, .iconst 0] 2 = true := by decide +kernel
theorem kX9_inner_5 : am_dec cX9_inner 5 [.aload_n 0, .iload_n 1] 7 = true := by decide +kernel
theorem kX9_inner_13 : am_dec cX9_inner 13 [.iconst 0] 14 = true := by decide +kernel
theorem kX9_inner_17 : am_dec cX9_inner 17 [.aload_n 0, .iload_n 1, .iconst 2] 20 = true := by decide +kernel
theorem eX9_inner_2 : decode cX9_inner 2 = .ok (.putfield 32, 3) := by decide +kernel
theorem eX9_inner_7 : decode cX9_inner 7 = .ok (.invokevirtual 309, 3) := by decide +kernel
theorem eX9_inner_10 : decode cX9_inner 10 = .ok (.ifCond .eq 7, 3) := by decide +kernel
theorem eX9_inner_14 : decode cX9_inner 14 = .ok (.goto 9, 3) := by decide +kernel
theorem eX9_inner_20 : decode cX9_inner 20 = .ok (.invokevirtual 284, 3) := by decide +kernel
theorem eX9_inner_23 : decode cX9_inner 23 = .ok (.ireturn, 1) := by decide +kernel
theorem kX9_dents_0 : am_dec cX9_dents 0 [.aload_n 0, .iconst 0] 2 = true := by decide +kernel
theorem kX9_dents_5 : am_dec cX9_dents 5 [.aload_n 0, .iload_n 1] 7 = true := by decide +kernel
theorem kX9_dents_13 : am_dec cX9_dents 13 [.iconst 0] 14 = true := by decide +kernel
theorem kX9_dents_17 : am_dec cX9_dents 17 [.aload_n 0, .iload_n 1] 19 = true := by decide +kernel
theorem eX9_dents_2 : decode cX9_dents 2 = .ok (.putfield 32, 3) := by decide +kernel
theorem eX9_dents_7 : decode cX9_dents 7 = .ok (.invokevirtual 309, 3) := by decide +kernel
theorem eX9_dents_10 : decode cX9_dents 10 = .ok (.ifCond .eq 7, 3) := by decide +kernel
theorem eX9_dents_14 : decode cX9_dents 14 = .ok (.goto 8, 3) := by decide +kernel
theorem eX9_dents_19 : decode cX9_dents 19 = .ok (.invokevirtual 281, 3) := by decide +kernel
theorem eX9_dents_22 : decode cX9_dents 22 = .ok (.ireturn, 1) := by decide +kernel
theorem kX9_parent_0 : am_dec cX9_parent 0 [.aload_n 0, .iconst 0] 2 = true := by decide +kernel
theorem kX9_parent_5 : am_dec cX9_parent 5 [.aload_n 0, .iload_n 1] 7 = true := by decide +kernel
theorem kX9_parent_13 : am_dec cX9_parent 13 [.iconst 0] 14 = true := by decide +kernel
theorem kX9_parent_17 : am_dec cX9_parent 17 [.aload_n 0, .aload_n 0, .iload_n 1, .iconst 0] 21 = true := by decide +kernel
theorem kX9_parent_24 : am_dec cX9_parent 24 [.aload_n 0, .iload_n 1, .iconst 0] 27 = true := by decide +kernel
theorem kX9_parent_30 : am_dec cX9_parent 30 [.iload_n 1] 31 = true := by decide +kernel
theorem eX9_parent_2 : decode cX9_parent 2 = .ok (.putfield 32, 3) := by decide +kernel
theorem eX9_parent_7 : decode cX9_parent 7 = .ok (.invokevirtual 309, 3) := by decide +kernel
theorem eX9_parent_10 : decode cX9_parent 10 = .ok (.ifCond .eq 7, 3) := by decide +kernel
theorem eX9_parent_14 : decode cX9_parent 14 = .ok (.goto 20, 3) := by decide +kernel
theorem eX9_parent_21 : decode cX9_parent 21 = .ok (.invokevirtual 72, 3) := by decide +kernel
theorem eX9_parent_27 : decode cX9_parent 27 = .ok (.invokevirtual 75, 3) := by decide +kernel
theorem eX9_parent_31 : decode cX9_parent 31 = .ok (.invokevirtual 267, 3) := by decide +kernel
theorem eX9_parent_34 : decode cX9_parent 34 = .ok (.ireturn, 1) := by decide +kernel
theorem kX9_score_0 : am_dec cX9_score 0 [.aload_n 0, .iconst 0] 2 = true := by decide +kernel
theorem kX9_score_5 : am_dec cX9_score 5 [.aload_n 0, .iload_n 1] 7 = true := by decide +kernel
theorem kX9_score_13 : am_dec cX9_score 13 [.iconst 0] 14 = true := by decide +kernel
theorem kX9_score_17 : am_dec cX9_score 17 [.aload_n 0, .iload_n 1] 19 = true := by decide +kernel
theorem eX9_score_2 : decode cX9_score 2 = .ok (.putfield 32, 3) := by decide +kernel
theorem eX9_score_7 : decode cX9_score 7 = .ok (.invokevirtual 309, 3) := by decide +kernel
theorem eX9_score_10 : decode cX9_score 10 = .ok (.ifCond .eq 7, 3) := by decide +kernel
theorem eX9_score_14 : decode cX9_score 14 = .ok (.goto 8, 3) := by decide +kernel
theorem eX9_score_19 : decode cX9_score 19 = .ok (.invokevirtual 297, 3) := by decide +kernel
theorem eX9_score_22 : decode cX9_score 22 = .ok (.ireturn, 1) := by decide +kernel
theorem kX9_points_0 : am_dec cX9_points 0 [.aload_n 0, .iconst 0] 2 = true := by decide +kernel
theorem kX9_points_5 : am_dec cX9_points 5 [.aload_n 0, .iload_n 1, .iconst 0, .iconst 3] 9 = true := by decide +kernel
theorem kX9_points_15 : am_dec cX9_points 15 [.iconst 1] 16 = true := by decide +kernel
theorem kX9_points_19 : am_dec cX9_points 19 [.iconst 0] 20 = true := by decide +kernel
theorem kX9_points_20 : am_dec cX9_points 20 [.iconst 1] 21 = true := by decide +kernel
theorem kX9_points_27 : am_dec cX9_points 27 [.iconst 0] 28 = true := by decide +kernel
theorem kX9_points_31 : am_dec cX9_points 31 [.aload_n 0, .iload_n 1] 33 = true := by decide +kernel
theorem eX9_points_2 : decode cX9_points 2 = .ok (.putfield 32, 3) := by decide +kernel
theorem eX9_points_9 : decode cX9_points 9 = .ok (.invokestatic 57, 3) := by decide +kernel
theorem eX9_points_12 : decode cX9_points 12 = .ok (.ifCond .ne 7, 3) := by decide +kernel
theorem eX9_points_16 : decode cX9_points 16 = .ok (.goto 4, 3) := by decide +kernel
theorem eX9_points_21 : decode cX9_points 21 = .ok (.invokevirtual 241, 3) := by decide +kernel
theorem eX9_points_24 : decode cX9_points 24 = .ok (.ifCond .eq 7, 3) := by decide +kernel
theorem eX9_points_28 : decode cX9_points 28 = .ok (.goto 8, 3) := by decide +kernel
theorem eX9_points_33 : decode cX9_points 33 = .ok (.invokevirtual 312, 3) := by decide +kernel
theorem eX9_points_36 : decode cX9_points 36 = .ok (.ireturn, 1) := by decide +kernel
theorem kX9_leader_0 : am_dec cX9_leader 0 [.aload_n 0, .iconst 0] 2 = true := by decide +kernel
theorem kX9_leader_5 : am_dec cX9_leader 5 [.iconst 0, .istore_n 1, .aload_n 0, .iconst 0] 9 = true := by decide +kernel
theorem kX9_leader_12 : am_dec cX9_leader 12 [.istore_n 2, .iconst 1, .istore_n 3] 15 = true := by decide +kernel
theorem kX9_leader_15 : am_dec cX9_leader 15 [.iload_n 3, .iconst 4] 17 = true := by decide +kernel
theorem kX9_leader_20 : am_dec cX9_leader 20 [.aload_n 0, .iload_n 3] 22 = true := by decide +kernel
theorem kX9_leader_25 : am_dec cX9_leader 25 [.istore 4, .iload 4, .iload_n 2] 30 = true := by decide +kernel
theorem kX9_leader_36 : am_dec cX9_leader 36 [.iload_n 3, .istore_n 1, .iload 4, .istore_n 2] 41 = true := by decide +kernel
theorem kX9_leader_41 : am_dec cX9_leader 41 [.iinc 3 1] 44 = true := by decide +kernel
theorem kX9_leader_47 : am_dec cX9_leader 47 [.iload_n 1] 48 = true := by decide +kernel
theorem eX9_leader_2 : decode cX9_leader 2 = .ok (.putfield 32, 3) := by decide +kernel
theorem eX9_leader_9 : decode cX9_leader 9 = .ok (.invokevirtual 312, 3) := by decide +kernel
theorem eX9_leader_17 : decode cX9_leader 17 = .ok (.if_icmp .ge 30, 3) := by decide +kernel
theorem eX9_leader_22 : decode cX9_leader 22 = .ok (.invokevirtual 312, 3) := by decide +kernel
theorem eX9_leader_30 : decode cX9_leader 30 = .ok (.if_icmp .gt 6, 3) := by decide +kernel
theorem eX9_leader_33 : decode cX9_leader 33 = .ok (.goto 8, 3) := by decide +kernel
theorem eX9_leader_44 : decode cX9_leader 44 = .ok (.goto (-29), 3) := by decide +kernel
theorem eX9_leader_48 : decode cX9_leader 48 = .ok (.ireturn, 1) := by decide +kernel
theorem kX9_push_0 : am_dec cX9_push 0 [.aload_n 0] 1 = true := by decide +kernel
theorem kX9_push_4 : am_dec cX9_push 4 [.bipush 8] 6 = true := by decide +kernel
theorem kX9_push_9 : am_dec cX9_push 9 [.iconst 1, .istore_n 2] 11 = true := by decide +kernel
theorem kX9_push_11 : am_dec cX9_push 11 [.iload_n 2, .bipush 8] 14 = true := by decide +kernel
theorem kX9_push_17 : am_dec cX9_push 17 [.aload_n 0] 18 = true := by decide +kernel
theorem kX9_push_21 : am_dec cX9_push 21 [.iload_n 2] 22 = true := by decide +kernel
theorem kX9_push_23 : am_dec cX9_push 23 [.aload_n 0] 24 = true := by decide +kernel
theorem kX9_push_27 : am_dec cX9_push 27 [.iload_n 2, .iconst 1, .isub] 30 = true := by decide +kernel
theorem kX9_push_34 : am_dec cX9_push 34 [.iinc 2 1] 37 = true := by decide +kernel
theorem kX9_push_40 : am_dec cX9_push 40 [.aload_n 0, .dup] 42 = true := by decide +kernel
theorem kX9_push_45 : am_dec cX9_push 45 [.iconst 1, .isub] 47 = true := by decide +kernel
theorem kX9_push_50 : am_dec cX9_push 50 [.aload_n 1, .aload_n 0] 52 = true := by decide +kernel
theorem kX9_push_55 : am_dec cX9_push 55 [.aload_n 0] 56 = true := by decide +kernel
theorem kX9_push_63 : am_dec cX9_push 63 [.aload_n 0, .dup] 65 = true := by decide +kernel
theorem kX9_push_68 : am_dec cX9_push 68 [.iconst 1, .iadd] 70 = true := by decide +kernel
theorem eX9_push_1 : decode cX9_push 1 = .ok (.getfield 315, 3) := by decide +kernel
theorem eX9_push_6 : decode cX9_push 6 = .ok (.if_icmp .ne 44, 3) := by decide +kernel
theorem eX9_push_14 : decode cX9_push 14 = .ok (.if_icmp .ge 26, 3) := by decide +kernel
theorem eX9_push_18 : decode cX9_push 18 = .ok (.getfield 25, 3) := by decide +kernel
theorem eX9_push_22 : decode cX9_push 22 = .ok (.aaload, 1) := by decide +kernel
theorem eX9_push_24 : decode cX9_push 24 = .ok (.getfield 25, 3) := by decide +kernel
theorem eX9_push_30 : decode cX9_push 30 = .ok (.aaload, 1) := by decide +kernel
theorem eX9_push_31 : decode cX9_push 31 = .ok (.invokestatic 245, 3) := by decide +kernel
theorem eX9_push_37 : decode cX9_push 37 = .ok (.goto (-26), 3) := by decide +kernel
theorem eX9_push_42 : decode cX9_push 42 = .ok (.getfield 315, 3) := by decide +kernel
theorem eX9_push_47 : decode cX9_push 47 = .ok (.putfield 315, 3) := by decide +kernel
theorem eX9_push_52 : decode cX9_push 52 = .ok (.getfield 25, 3) := by decide +kernel
theorem eX9_push_56 : decode cX9_push 56 = .ok (.getfield 315, 3) := by decide +kernel
theorem eX9_push_59 : decode cX9_push 59 = .ok (.aaload, 1) := by decide +kernel
theorem eX9_push_60 : decode cX9_push 60 = .ok (.invokestatic 245, 3) := by decide +kernel
theorem eX9_push_65 : decode cX9_push 65 = .ok (.getfield 315, 3) := by decide +kernel
theorem eX9_push_70 : decode cX9_push 70 = .ok (.putfield 315, 3) := by decide +kernel
theorem eX9_push_73 : decode cX9_push 73 = .ok (.return_, 1) := by decide +kernel
theorem kX9_begin_0 : am_dec cX9_begin 0 [.aload_n 0, .iconst 0] 2 = true := by decide +kernel
theorem kX9_begin_5 : am_dec cX9_begin 5 [.aload_n 0, .iload_n 1, .iconst 0, .iconst 3] 9 = true := by decide +kernel
theorem kX9_begin_15 : am_dec cX9_begin 15 [.iconst 1] 16 = true := by decide +kernel
theorem kX9_begin_19 : am_dec cX9_begin 19 [.iconst 0] 20 = true := by decide +kernel
theorem kX9_begin_20 : am_dec cX9_begin 20 [.iconst 1] 21 = true := by decide +kernel
theorem kX9_begin_27 : am_dec cX9_begin 27 [.aload_n 0, .iload_n 2, .iload_n 3, .iconst 1] 31 = true := by decide +kernel
theorem kX9_begin_37 : am_dec cX9_begin 37 [.aload_n 0, .aload_n 0] 39 = true := by decide +kernel
theorem kX9_begin_42 : am_dec cX9_begin 42 [.iconst 3] 43 = true := by decide +kernel
theorem kX9_begin_44 : am_dec cX9_begin 44 [.bipush 6] 46 = true := by decide +kernel
theorem kX9_begin_49 : am_dec cX9_begin 49 [.iconst 1] 50 = true := by decide +kernel
theorem kX9_begin_53 : am_dec cX9_begin 53 [.iconst 0] 54 = true := by decide +kernel
theorem kX9_begin_54 : am_dec cX9_begin 54 [.iconst 2] 55 = true := by decide +kernel
theorem kX9_begin_61 : am_dec cX9_begin 61 [.iconst 0] 62 = true := by decide +kernel
theorem kX9_begin_63 : am_dec cX9_begin 63 [.aload_n 0, .aload_n 0] 65 = true := by decide +kernel
theorem kX9_begin_71 : am_dec cX9_begin 71 [.aload_n 0, .iload_n 2, .iload_n 3] 74 = true := by decide +kernel
theorem kX9_begin_80 : am_dec cX9_begin 80 [.aload_n 0, .iload_n 2, .iload_n 3] 83 = true := by decide +kernel
theorem kX9_begin_89 : am_dec cX9_begin 89 [.bipush (-3)] 91 = true := by decide +kernel
theorem kX9_begin_92 : am_dec cX9_begin 92 [.aload_n 0, .iload_n 1, .iload_n 2, .iload_n 3] 96 = true := by decide +kernel
theorem kX9_begin_99 : am_dec cX9_begin 99 [.aload_n 0] 100 = true := by decide +kernel
theorem kX9_begin_103 : am_dec cX9_begin 103 [.iconst 3] 104 = true := by decide +kernel
theorem kX9_begin_105 : am_dec cX9_begin 105 [.iconst 1, .isub] 107 = true := by decide +kernel
theorem eX9_begin_2 : decode cX9_begin 2 = .ok (.putfield 32, 3) := by decide +kernel
theorem eX9_begin_9 : decode cX9_begin 9 = .ok (.invokestatic 57, 3) := by decide +kernel
theorem eX9_begin_12 : decode cX9_begin 12 = .ok (.ifCond .ne 7, 3) := by decide +kernel
theorem eX9_begin_16 : decode cX9_begin 16 = .ok (.goto 4, 3) := by decide +kernel
theorem eX9_begin_21 : decode cX9_begin 21 = .ok (.invokevirtual 241, 3) := by decide +kernel
theorem eX9_begin_24 : decode cX9_begin 24 = .ok (.ifCond .ne 37, 3) := by decide +kernel
theorem eX9_begin_31 : decode cX9_begin 31 = .ok (.invokevirtual 306, 3) := by decide +kernel
theorem eX9_begin_34 : decode cX9_begin 34 = .ok (.ifCond .ne 27, 3) := by decide +kernel
theorem eX9_begin_39 : decode cX9_begin 39 = .ok (.getfield 17, 3) := by decide +kernel
theorem eX9_begin_43 : decode cX9_begin 43 = .ok (.iaload, 1) := by decide +kernel
theorem eX9_begin_46 : decode cX9_begin 46 = .ok (.if_icmp .ne 7, 3) := by decide +kernel
theorem eX9_begin_50 : decode cX9_begin 50 = .ok (.goto 4, 3) := by decide +kernel
theorem eX9_begin_55 : decode cX9_begin 55 = .ok (.invokevirtual 241, 3) := by decide +kernel
theorem eX9_begin_58 : decode cX9_begin 58 = .ok (.ifCond .eq 5, 3) := by decide +kernel
theorem eX9_begin_62 : decode cX9_begin 62 = .ok (.ireturn, 1) := by decide +kernel
theorem eX9_begin_65 : decode cX9_begin 65 = .ok (.getfield 17, 3) := by decide +kernel
theorem eX9_begin_68 : decode cX9_begin 68 = .ok (.invokevirtual 254, 3) := by decide +kernel
theorem eX9_begin_74 : decode cX9_begin 74 = .ok (.invokevirtual 110, 3) := by decide +kernel
theorem eX9_begin_77 : decode cX9_begin 77 = .ok (.ifCond .ne 12, 3) := by decide +kernel
theorem eX9_begin_83 : decode cX9_begin 83 = .ok (.invokevirtual 212, 3) := by decide +kernel
theorem eX9_begin_86 : decode cX9_begin 86 = .ok (.ifCond .eq 6, 3) := by decide +kernel
theorem eX9_begin_91 : decode cX9_begin 91 = .ok (.ireturn, 1) := by decide +kernel
theorem eX9_begin_96 : decode cX9_begin 96 = .ok (.invokevirtual 215, 3) := by decide +kernel
theorem eX9_begin_100 : decode cX9_begin 100 = .ok (.getfield 17, 3) := by decide +kernel
theorem eX9_begin_104 : decode cX9_begin 104 = .ok (.iaload, 1) := by decide +kernel
theorem eX9_begin_107 : decode cX9_begin 107 = .ok (.ireturn, 1) := by decide +kernel
theorem kX9_corner_0 : am_dec cX9_corner 0 [.aload_n 0, .iconst 0] 2 = true := by decide +kernel
theorem kX9_corner_5 : am_dec cX9_corner 5 [.aload_n 0, .iload_n 1] 7 = true := by decide +kernel
theorem kX9_corner_13 : am_dec cX9_corner 13 [.aload_n 0, .iload_n 2, .iload_n 3, .iconst 2] 17 = true := by decide +kernel
theorem kX9_corner_23 : am_dec cX9_corner 23 [.iconst 0] 24 = true := by decide +kernel
theorem kX9_corner_25 : am_dec cX9_corner 25 [.aload_n 0, .aload_n 0] 27 = true := by decide +kernel
theorem kX9_corner_33 : am_dec cX9_corner 33 [.aload_n 0, .iload_n 1, .iload_n 2, .iload_n 3] 37 = true := by decide +kernel
theorem kX9_corner_40 : am_dec cX9_corner 40 [.istore 4, .iload 4] 44 = true := by decide +kernel
theorem kX9_corner_47 : am_dec cX9_corner 47 [.iload 4, .ineg] 50 = true := by decide +kernel
theorem kX9_corner_51 : am_dec cX9_corner 51 [.aload_n 0, .iload_n 1, .aload_n 0, .iload_n 1] 55 = true := by decide +kernel
theorem kX9_corner_58 : am_dec cX9_corner 58 [.iload_n 2, .iload_n 3] 60 = true := by decide +kernel
theorem kX9_corner_63 : am_dec cX9_corner 63 [.aload_n 0, .iload_n 1] 65 = true := by decide +kernel
theorem eX9_corner_2 : decode cX9_corner 2 = .ok (.putfield 32, 3) := by decide +kernel
theorem eX9_corner_7 : decode cX9_corner 7 = .ok (.invokevirtual 300, 3) := by decide +kernel
theorem eX9_corner_10 : decode cX9_corner 10 = .ok (.ifCond .ne 13, 3) := by decide +kernel
theorem eX9_corner_17 : decode cX9_corner 17 = .ok (.invokevirtual 306, 3) := by decide +kernel
theorem eX9_corner_20 : decode cX9_corner 20 = .ok (.ifCond .eq 5, 3) := by decide +kernel
theorem eX9_corner_24 : decode cX9_corner 24 = .ok (.ireturn, 1) := by decide +kernel
theorem eX9_corner_27 : decode cX9_corner 27 = .ok (.getfield 17, 3) := by decide +kernel
theorem eX9_corner_30 : decode cX9_corner 30 = .ok (.invokevirtual 254, 3) := by decide +kernel
theorem eX9_corner_37 : decode cX9_corner 37 = .ok (.invokevirtual 219, 3) := by decide +kernel
theorem eX9_corner_44 : decode cX9_corner 44 = .ok (.ifCond .le 7, 3) := by decide +kernel
theorem eX9_corner_50 : decode cX9_corner 50 = .ok (.ireturn, 1) := by decide +kernel
theorem eX9_corner_55 : decode cX9_corner 55 = .ok (.invokevirtual 39, 3) := by decide +kernel
theorem eX9_corner_60 : decode cX9_corner 60 = .ok (.invokevirtual 124, 3) := by decide +kernel
theorem eX9_corner_65 : decode cX9_corner 65 = .ok (.invokevirtual 39, 3) := by decide +kernel
theorem eX9_corner_68 : decode cX9_corner 68 = .ok (.ireturn, 1) := by decide +kernel
theorem kX9_close_0 : am_dec cX9_close 0 [.aload_n 0, .iconst 0] 2 = true := by decide +kernel
theorem kX9_close_5 : am_dec cX9_close 5 [.aload_n 0, .iload_n 1] 7 = true := by decide +kernel
theorem kX9_close_13 : am_dec cX9_close 13 [.iconst 0] 14 = true := by decide +kernel
theorem kX9_close_15 : am_dec cX9_close 15 [.aload_n 0, .aload_n 0] 17 = true := by decide +kernel
theorem kX9_close_23 : am_dec cX9_close 23 [.aload_n 0, .iload_n 1] 25 = true := by decide +kernel
theorem kX9_close_28 : am_dec cX9_close 28 [.istore_n 2, .iload_n 2] 30 = true := by decide +kernel
theorem kX9_close_33 : am_dec cX9_close 33 [.iload_n 2, .ineg] 35 = true := by decide +kernel
theorem kX9_close_36 : am_dec cX9_close 36 [.aload_n 0] 37 = true := by decide +kernel
theorem kX9_close_40 : am_dec cX9_close 40 [.iload_n 1] 41 = true := by decide +kernel
theorem kX9_close_44 : am_dec cX9_close 44 [.iconst 2, .iadd, .iconst 1] 47 = true := by decide +kernel
theorem kX9_close_48 : am_dec cX9_close 48 [.iconst 0, .istore_n 3, .iconst 0, .istore 4] 53 = true := by decide +kernel
theorem kX9_close_53 : am_dec cX9_close 53 [.iload 4, .aload_n 0] 56 = true := by decide +kernel
theorem kX9_close_59 : am_dec cX9_close 59 [.iconst 2] 60 = true := by decide +kernel
theorem kX9_close_64 : am_dec cX9_close 64 [.iload_n 3, .aload_n 0, .iload 4] 68 = true := by decide +kernel
theorem kX9_close_71 : am_dec cX9_close 71 [.iload_n 1] 72 = true := by decide +kernel
theorem kX9_close_75 : am_dec cX9_close 75 [.iconst 1] 76 = true := by decide +kernel
theorem kX9_close_79 : am_dec cX9_close 79 [.iconst 0] 80 = true := by decide +kernel
theorem kX9_close_80 : am_dec cX9_close 80 [.iadd, .istore_n 3, .iinc 4 1] 85 = true := by decide +kernel
theorem kX9_close_88 : am_dec cX9_close 88 [.iload_n 3] 89 = true := by decide +kernel
theorem eX9_close_2 : decode cX9_close 2 = .ok (.putfield 32, 3) := by decide +kernel
theorem eX9_close_7 : decode cX9_close 7 = .ok (.invokevirtual 300, 3) := by decide +kernel
theorem eX9_close_10 : decode cX9_close 10 = .ok (.ifCond .eq 5, 3) := by decide +kernel
theorem eX9_close_14 : decode cX9_close 14 = .ok (.ireturn, 1) := by decide +kernel
theorem eX9_close_17 : decode cX9_close 17 = .ok (.getfield 17, 3) := by decide +kernel
theorem eX9_close_20 : decode cX9_close 20 = .ok (.invokevirtual 254, 3) := by decide +kernel
theorem eX9_close_25 : decode cX9_close 25 = .ok (.invokevirtual 223, 3) := by decide +kernel
theorem eX9_close_30 : decode cX9_close 30 = .ok (.ifCond .le 6, 3) := by decide +kernel
theorem eX9_close_35 : decode cX9_close 35 = .ok (.ireturn, 1) := by decide +kernel
theorem eX9_close_37 : decode cX9_close 37 = .ok (.getfield 17, 3) := by decide +kernel
theorem eX9_close_41 : decode cX9_close 41 = .ok (.invokestatic 35, 3) := by decide +kernel
theorem eX9_close_47 : decode cX9_close 47 = .ok (.iastore, 1) := by decide +kernel
theorem eX9_close_56 : decode cX9_close 56 = .ok (.getfield 17, 3) := by decide +kernel
theorem eX9_close_60 : decode cX9_close 60 = .ok (.iaload, 1) := by decide +kernel
theorem eX9_close_61 : decode cX9_close 61 = .ok (.if_icmp .ge 27, 3) := by decide +kernel
theorem eX9_close_68 : decode cX9_close 68 = .ok (.invokevirtual 270, 3) := by decide +kernel
theorem eX9_close_72 : decode cX9_close 72 = .ok (.if_icmp .ne 7, 3) := by decide +kernel
theorem eX9_close_76 : decode cX9_close 76 = .ok (.goto 4, 3) := by decide +kernel
theorem eX9_close_85 : decode cX9_close 85 = .ok (.goto (-32), 3) := by decide +kernel
theorem eX9_close_89 : decode cX9_close 89 = .ok (.ireturn, 1) := by decide +kernel
theorem kX9_bend_0 : am_dec cX9_bend 0 [.aload_n 0, .iconst 0] 2 = true := by decide +kernel
theorem kX9_bend_5 : am_dec cX9_bend 5 [.aload_n 0, .iload_n 1] 7 = true := by decide +kernel
theorem kX9_bend_13 : am_dec cX9_bend 13 [.aload_n 0, .iload_n 2, .iconst 0, .aload_n 0, .iload_n 1] 18 = true := by decide +kernel
theorem kX9_bend_21 : am_dec cX9_bend 21 [.iconst 1, .isub] 23 = true := by decide +kernel
theorem kX9_bend_29 : am_dec cX9_bend 29 [.iconst 1] 30 = true := by decide +kernel
theorem kX9_bend_33 : am_dec cX9_bend 33 [.iconst 0] 34 = true := by decide +kernel
theorem kX9_bend_34 : am_dec cX9_bend 34 [.iconst 2] 35 = true := by decide +kernel
theorem kX9_bend_41 : am_dec cX9_bend 41 [.aload_n 0, .iload_n 3, .iload 4, .iconst 3] 46 = true := by decide +kernel
theorem kX9_bend_52 : am_dec cX9_bend 52 [.iconst 0] 53 = true := by decide +kernel
theorem kX9_bend_54 : am_dec cX9_bend 54 [.aload_n 0, .aload_n 0] 56 = true := by decide +kernel
theorem kX9_bend_62 : am_dec cX9_bend 62 [.aload_n 0, .iload_n 1, .iload_n 2, .iload_n 3, .iload 4] 68 = true := by decide +kernel
theorem kX9_bend_71 : am_dec cX9_bend 71 [.istore 5, .iload 5] 75 = true := by decide +kernel
theorem kX9_bend_78 : am_dec cX9_bend 78 [.iload 5, .ineg] 81 = true := by decide +kernel
theorem kX9_bend_82 : am_dec cX9_bend 82 [.aload_n 0, .iload_n 1, .iload_n 2, .iconst 1, .iadd, .iload_n 3, .iload 4] 90 = true := by decide +kernel
theorem kX9_bend_93 : am_dec cX9_bend 93 [.aload_n 0, .iload_n 1] 95 = true := by decide +kernel
theorem eX9_bend_2 : decode cX9_bend 2 = .ok (.putfield 32, 3) := by decide +kernel
theorem eX9_bend_7 : decode cX9_bend 7 = .ok (.invokevirtual 300, 3) := by decide +kernel
theorem eX9_bend_10 : decode cX9_bend 10 = .ok (.ifCond .ne 42, 3) := by decide +kernel
theorem eX9_bend_18 : decode cX9_bend 18 = .ok (.invokevirtual 39, 3) := by decide +kernel
theorem eX9_bend_23 : decode cX9_bend 23 = .ok (.invokestatic 57, 3) := by decide +kernel
theorem eX9_bend_26 : decode cX9_bend 26 = .ok (.ifCond .ne 7, 3) := by decide +kernel
theorem eX9_bend_30 : decode cX9_bend 30 = .ok (.goto 4, 3) := by decide +kernel
theorem eX9_bend_35 : decode cX9_bend 35 = .ok (.invokevirtual 241, 3) := by decide +kernel
theorem eX9_bend_38 : decode cX9_bend 38 = .ok (.ifCond .ne 14, 3) := by decide +kernel
theorem eX9_bend_46 : decode cX9_bend 46 = .ok (.invokevirtual 306, 3) := by decide +kernel
theorem eX9_bend_49 : decode cX9_bend 49 = .ok (.ifCond .eq 5, 3) := by decide +kernel
theorem eX9_bend_53 : decode cX9_bend 53 = .ok (.ireturn, 1) := by decide +kernel
theorem eX9_bend_56 : decode cX9_bend 56 = .ok (.getfield 17, 3) := by decide +kernel
theorem eX9_bend_59 : decode cX9_bend 59 = .ok (.invokevirtual 254, 3) := by decide +kernel
theorem eX9_bend_68 : decode cX9_bend 68 = .ok (.invokevirtual 318, 3) := by decide +kernel
theorem eX9_bend_75 : decode cX9_bend 75 = .ok (.ifCond .le 7, 3) := by decide +kernel
theorem eX9_bend_81 : decode cX9_bend 81 = .ok (.ireturn, 1) := by decide +kernel
theorem eX9_bend_90 : decode cX9_bend 90 = .ok (.invokevirtual 124, 3) := by decide +kernel
theorem eX9_bend_95 : decode cX9_bend 95 = .ok (.invokevirtual 264, 3) := by decide +kernel
theorem eX9_bend_98 : decode cX9_bend 98 = .ok (.ireturn, 1) := by decide +kernel
theorem kX9_takeOut_0 : am_dec cX9_takeOut 0 [.aload_n 0, .iconst 0] 2 = true := by decide +kernel
theorem kX9_takeOut_5 : am_dec cX9_takeOut 5 [.aload_n 0, .iload_n 1] 7 = true := by decide +kernel
theorem kX9_takeOut_13 : am_dec cX9_takeOut 13 [.aload_n 0, .iload_n 2, .iconst 0, .aload_n 0, .iload_n 1] 18 = true := by decide +kernel
theorem kX9_takeOut_21 : am_dec cX9_takeOut 21 [.iconst 1, .isub] 23 = true := by decide +kernel
theorem kX9_takeOut_29 : am_dec cX9_takeOut 29 [.iconst 1] 30 = true := by decide +kernel
theorem kX9_takeOut_33 : am_dec cX9_takeOut 33 [.iconst 0] 34 = true := by decide +kernel
theorem kX9_takeOut_34 : am_dec cX9_takeOut 34 [.iconst 2] 35 = true := by decide +kernel
theorem kX9_takeOut_41 : am_dec cX9_takeOut 41 [.iconst 0] 42 = true := by decide +kernel
theorem kX9_takeOut_43 : am_dec cX9_takeOut 43 [.aload_n 0, .aload_n 0] 45 = true := by decide +kernel
theorem kX9_takeOut_51 : am_dec cX9_takeOut 51 [.aload_n 0, .iload_n 1, .iload_n 2] 54 = true := by decide +kernel
theorem kX9_takeOut_57 : am_dec cX9_takeOut 57 [.istore_n 3, .iload_n 3] 59 = true := by decide +kernel
theorem kX9_takeOut_62 : am_dec cX9_takeOut 62 [.iload_n 3, .ineg] 64 = true := by decide +kernel
theorem kX9_takeOut_65 : am_dec cX9_takeOut 65 [.iload_n 1] 66 = true := by decide +kernel
theorem kX9_takeOut_69 : am_dec cX9_takeOut 69 [.istore 4, .aload_n 0] 72 = true := by decide +kernel
theorem kX9_takeOut_75 : am_dec cX9_takeOut 75 [.iload 4, .iconst 1, .iadd, .dup2] 80 = true := by decide +kernel
theorem kX9_takeOut_81 : am_dec cX9_takeOut 81 [.iconst 1, .isub] 83 = true := by decide +kernel
theorem kX9_takeOut_84 : am_dec cX9_takeOut 84 [.iconst 2, .iload_n 2, .imul, .istore 5] 89 = true := by decide +kernel
theorem kX9_takeOut_89 : am_dec cX9_takeOut 89 [.iload 5, .iconst 2, .aload_n 0, .iload_n 1] 94 = true := by decide +kernel
theorem kX9_takeOut_97 : am_dec cX9_takeOut 97 [.imul] 98 = true := by decide +kernel
theorem kX9_takeOut_101 : am_dec cX9_takeOut 101 [.aload_n 0] 102 = true := by decide +kernel
theorem kX9_takeOut_105 : am_dec cX9_takeOut 105 [.iload 4, .iconst 3, .iadd, .iload 5, .iadd, .aload_n 0] 113 = true := by decide +kernel
theorem kX9_takeOut_116 : am_dec cX9_takeOut 116 [.iload 4, .iconst 3, .iadd, .iload 5, .iadd, .iconst 2, .iadd] 125 = true := by decide +kernel
theorem kX9_takeOut_127 : am_dec cX9_takeOut 127 [.iinc 5 1] 130 = true := by decide +kernel
theorem kX9_takeOut_133 : am_dec cX9_takeOut 133 [.aload_n 0, .iload_n 1] 135 = true := by decide +kernel
theorem eX9_takeOut_2 : decode cX9_takeOut 2 = .ok (.putfield 32, 3) := by decide +kernel
theorem eX9_takeOut_7 : decode cX9_takeOut 7 = .ok (.invokevirtual 300, 3) := by decide +kernel
theorem eX9_takeOut_10 : decode cX9_takeOut 10 = .ok (.ifCond .ne 31, 3) := by decide +kernel
theorem eX9_takeOut_18 : decode cX9_takeOut 18 = .ok (.invokevirtual 39, 3) := by decide +kernel
theorem eX9_takeOut_23 : decode cX9_takeOut 23 = .ok (.invokestatic 57, 3) := by decide +kernel
theorem eX9_takeOut_26 : decode cX9_takeOut 26 = .ok (.ifCond .ne 7, 3) := by decide +kernel
theorem eX9_takeOut_30 : decode cX9_takeOut 30 = .ok (.goto 4, 3) := by decide +kernel
theorem eX9_takeOut_35 : decode cX9_takeOut 35 = .ok (.invokevirtual 241, 3) := by decide +kernel
theorem eX9_takeOut_38 : decode cX9_takeOut 38 = .ok (.ifCond .eq 5, 3) := by decide +kernel
theorem eX9_takeOut_42 : decode cX9_takeOut 42 = .ok (.ireturn, 1) := by decide +kernel
theorem eX9_takeOut_45 : decode cX9_takeOut 45 = .ok (.getfield 17, 3) := by decide +kernel
theorem eX9_takeOut_48 : decode cX9_takeOut 48 = .ok (.invokevirtual 254, 3) := by decide +kernel
theorem eX9_takeOut_54 : decode cX9_takeOut 54 = .ok (.invokevirtual 321, 3) := by decide +kernel
theorem eX9_takeOut_59 : decode cX9_takeOut 59 = .ok (.ifCond .le 6, 3) := by decide +kernel
theorem eX9_takeOut_64 : decode cX9_takeOut 64 = .ok (.ireturn, 1) := by decide +kernel
theorem eX9_takeOut_66 : decode cX9_takeOut 66 = .ok (.invokestatic 35, 3) := by decide +kernel
theorem eX9_takeOut_72 : decode cX9_takeOut 72 = .ok (.getfield 17, 3) := by decide +kernel
theorem eX9_takeOut_80 : decode cX9_takeOut 80 = .ok (.iaload, 1) := by decide +kernel
theorem eX9_takeOut_83 : decode cX9_takeOut 83 = .ok (.iastore, 1) := by decide +kernel
theorem eX9_takeOut_94 : decode cX9_takeOut 94 = .ok (.invokevirtual 39, 3) := by decide +kernel
theorem eX9_takeOut_98 : decode cX9_takeOut 98 = .ok (.if_icmp .ge 35, 3) := by decide +kernel
theorem eX9_takeOut_102 : decode cX9_takeOut 102 = .ok (.getfield 17, 3) := by decide +kernel
theorem eX9_takeOut_113 : decode cX9_takeOut 113 = .ok (.getfield 17, 3) := by decide +kernel
theorem eX9_takeOut_125 : decode cX9_takeOut 125 = .ok (.iaload, 1) := by decide +kernel
theorem eX9_takeOut_126 : decode cX9_takeOut 126 = .ok (.iastore, 1) := by decide +kernel
theorem eX9_takeOut_130 : decode cX9_takeOut 130 = .ok (.goto (-41), 3) := by decide +kernel
theorem eX9_takeOut_135 : decode cX9_takeOut 135 = .ok (.invokevirtual 264, 3) := by decide +kernel
theorem eX9_takeOut_138 : decode cX9_takeOut 138 = .ok (.ireturn, 1) := by decide +kernel
theorem kX9_remove_0 : am_dec cX9_remove 0 [.aload_n 0, .iconst 0] 2 = true := by decide +kernel
theorem kX9_remove_5 : am_dec cX9_remove 5 [.aload_n 0, .iload_n 1] 7 = true := by decide +kernel
theorem kX9_remove_13 : am_dec cX9_remove 13 [.iconst 0] 14 = true := by decide +kernel
theorem kX9_remove_15 : am_dec cX9_remove 15 [.aload_n 0, .aload_n 0] 17 = true := by decide +kernel
theorem kX9_remove_23 : am_dec cX9_remove 23 [.aload_n 0] 24 = true := by decide +kernel
theorem kX9_remove_27 : am_dec cX9_remove 27 [.iconst 3, .dup2] 29 = true := by decide +kernel
theorem kX9_remove_30 : am_dec cX9_remove 30 [.iconst 1, .isub] 32 = true := by decide +kernel
theorem kX9_remove_33 : am_dec cX9_remove 33 [.iload_n 1] 34 = true := by decide +kernel
theorem kX9_remove_37 : am_dec cX9_remove 37 [.istore_n 2] 38 = true := by decide +kernel
theorem kX9_remove_38 : am_dec cX9_remove 38 [.iload_n 2, .aload_n 0] 40 = true := by decide +kernel
theorem kX9_remove_43 : am_dec cX9_remove 43 [.iconst 3] 44 = true := by decide +kernel
theorem kX9_remove_51 : am_dec cX9_remove 51 [.aload_n 0] 52 = true := by decide +kernel
theorem kX9_remove_55 : am_dec cX9_remove 55 [.iload_n 2, .aload_n 0] 57 = true := by decide +kernel
theorem kX9_remove_60 : am_dec cX9_remove 60 [.iload_n 2, .bipush 27, .iadd] 64 = true := by decide +kernel
theorem kX9_remove_66 : am_dec cX9_remove 66 [.iinc 2 1] 69 = true := by decide +kernel
theorem kX9_remove_72 : am_dec cX9_remove 72 [.aload_n 0] 73 = true := by decide +kernel
theorem eX9_remove_2 : decode cX9_remove 2 = .ok (.putfield 32, 3) := by decide +kernel
theorem eX9_remove_7 : decode cX9_remove 7 = .ok (.invokevirtual 300, 3) := by decide +kernel
theorem eX9_remove_10 : decode cX9_remove 10 = .ok (.ifCond .eq 5, 3) := by decide +kernel
theorem eX9_remove_14 : decode cX9_remove 14 = .ok (.ireturn, 1) := by decide +kernel
theorem eX9_remove_17 : decode cX9_remove 17 = .ok (.getfield 17, 3) := by decide +kernel
theorem eX9_remove_20 : decode cX9_remove 20 = .ok (.invokevirtual 254, 3) := by decide +kernel
theorem eX9_remove_24 : decode cX9_remove 24 = .ok (.getfield 17, 3) := by decide +kernel
theorem eX9_remove_29 : decode cX9_remove 29 = .ok (.iaload, 1) := by decide +kernel
theorem eX9_remove_32 : decode cX9_remove 32 = .ok (.iastore, 1) := by decide +kernel
theorem eX9_remove_34 : decode cX9_remove 34 = .ok (.invokestatic 35, 3) := by decide +kernel
theorem eX9_remove_40 : decode cX9_remove 40 = .ok (.getfield 17, 3) := by decide +kernel
theorem eX9_remove_44 : decode cX9_remove 44 = .ok (.iaload, 1) := by decide +kernel
theorem eX9_remove_45 : decode cX9_remove 45 = .ok (.invokestatic 35, 3) := by decide +kernel
theorem eX9_remove_48 : decode cX9_remove 48 = .ok (.if_icmp .ge 24, 3) := by decide +kernel
theorem eX9_remove_52 : decode cX9_remove 52 = .ok (.getfield 17, 3) := by decide +kernel
theorem eX9_remove_57 : decode cX9_remove 57 = .ok (.getfield 17, 3) := by decide +kernel
theorem eX9_remove_64 : decode cX9_remove 64 = .ok (.iaload, 1) := by decide +kernel
theorem eX9_remove_65 : decode cX9_remove 65 = .ok (.iastore, 1) := by decide +kernel
theorem eX9_remove_69 : decode cX9_remove 69 = .ok (.goto (-31), 3) := by decide +kernel
theorem eX9_remove_73 : decode cX9_remove 73 = .ok (.invokevirtual 303, 3) := by decide +kernel
theorem eX9_remove_76 : decode cX9_remove 76 = .ok (.ireturn, 1) := by decide +kernel
theorem kX9_undo_0 : am_dec cX9_undo 0 [.aload_n 0, .iconst 0] 2 = true := by decide +kernel
theorem kX9_undo_5 : am_dec cX9_undo 5 [.aload_n 0] 6 = true := by decide +kernel
theorem kX9_undo_12 : am_dec cX9_undo 12 [.iconst (-1)] 13 = true := by decide +kernel
theorem kX9_undo_14 : am_dec cX9_undo 14 [.aload_n 0, .dup] 16 = true := by decide +kernel
theorem kX9_undo_19 : am_dec cX9_undo 19 [.iconst 1, .isub] 21 = true := by decide +kernel
theorem kX9_undo_24 : am_dec cX9_undo 24 [.aload_n 0] 25 = true := by decide +kernel
theorem kX9_undo_28 : am_dec cX9_undo 28 [.aload_n 0] 29 = true := by decide +kernel
theorem kX9_undo_33 : am_dec cX9_undo 33 [.aload_n 0] 34 = true := by decide +kernel
theorem kX9_undo_40 : am_dec cX9_undo 40 [.aload_n 0] 41 = true := by decide +kernel
theorem eX9_undo_2 : decode cX9_undo 2 = .ok (.putfield 32, 3) := by decide +kernel
theorem eX9_undo_6 : decode cX9_undo 6 = .ok (.getfield 315, 3) := by decide +kernel
theorem eX9_undo_9 : decode cX9_undo 9 = .ok (.ifCond .ne 5, 3) := by decide +kernel
theorem eX9_undo_13 : decode cX9_undo 13 = .ok (.ireturn, 1) := by decide +kernel
theorem eX9_undo_16 : decode cX9_undo 16 = .ok (.getfield 315, 3) := by decide +kernel
theorem eX9_undo_21 : decode cX9_undo 21 = .ok (.putfield 315, 3) := by decide +kernel
theorem eX9_undo_25 : decode cX9_undo 25 = .ok (.getfield 25, 3) := by decide +kernel
theorem eX9_undo_29 : decode cX9_undo 29 = .ok (.getfield 315, 3) := by decide +kernel
theorem eX9_undo_32 : decode cX9_undo 32 = .ok (.aaload, 1) := by decide +kernel
theorem eX9_undo_34 : decode cX9_undo 34 = .ok (.getfield 17, 3) := by decide +kernel
theorem eX9_undo_37 : decode cX9_undo 37 = .ok (.invokestatic 245, 3) := by decide +kernel
theorem eX9_undo_41 : decode cX9_undo 41 = .ok (.getfield 315, 3) := by decide +kernel
theorem eX9_undo_44 : decode cX9_undo 44 = .ok (.ireturn, 1) := by decide +kernel
theorem kX9_checksum_0 : am_dec cX9_checksum 0 [.aload_n 0, .iconst 0] 2 = true := by decide +kernel
theorem kX9_checksum_5 : am_dec cX9_checksum 5 [.lconst 0, .lstore_n 1, .iconst 0, .istore_n 3] 9 = true := by decide +kernel
theorem kX9_checksum_9 : am_dec cX9_checksum 9 [.iload_n 3, .aload_n 0] 11 = true := by decide +kernel
theorem kX9_checksum_14 : am_dec cX9_checksum 14 [.iconst 3] 15 = true := by decide +kernel
theorem kX9_checksum_25 : am_dec cX9_checksum 25 [.lload_n 1, .lmul, .aload_n 0] 28 = true := by decide +kernel
theorem kX9_checksum_31 : am_dec cX9_checksum 31 [.iload_n 3] 32 = true := by decide +kernel
theorem kX9_checksum_37 : am_dec cX9_checksum 37 [.ladd, .lmul, .aload_n 0] 40 = true := by decide +kernel
theorem kX9_checksum_43 : am_dec cX9_checksum 43 [.iload_n 3] 44 = true := by decide +kernel
theorem kX9_checksum_47 : am_dec cX9_checksum 47 [.iconst 2, .iadd] 49 = true := by decide +kernel
theorem kX9_checksum_51 : am_dec cX9_checksum 51 [.ladd, .lstore_n 1, .iconst 0, .istore 4] 56 = true := by decide +kernel
theorem kX9_checksum_56 : am_dec cX9_checksum 56 [.iload 4, .aload_n 0, .iload_n 3] 60 = true := by decide +kernel
theorem kX9_checksum_69 : am_dec cX9_checksum 69 [.lload_n 1, .lmul, .bipush 100, .aload_n 0, .iload_n 3, .iload 4] 77 = true := by decide +kernel
theorem kX9_checksum_80 : am_dec cX9_checksum 80 [.imul] 81 = true := by decide +kernel
theorem kX9_checksum_82 : am_dec cX9_checksum 82 [.ladd, .aload_n 0, .iload_n 3, .iload 4] 87 = true := by decide +kernel
theorem kX9_checksum_91 : am_dec cX9_checksum 91 [.ladd, .lstore_n 1, .iinc 4 1] 96 = true := by decide +kernel
theorem kX9_checksum_99 : am_dec cX9_checksum 99 [.iinc 3 1] 102 = true := by decide +kernel
theorem kX9_checksum_105 : am_dec cX9_checksum 105 [.iconst 0, .istore_n 3] 107 = true := by decide +kernel
theorem kX9_checksum_107 : am_dec cX9_checksum 107 [.iload_n 3, .aload_n 0] 109 = true := by decide +kernel
theorem kX9_checksum_112 : am_dec cX9_checksum 112 [.iconst 2] 113 = true := by decide +kernel
theorem kX9_checksum_120 : am_dec cX9_checksum 120 [.lload_n 1, .lmul, .aload_n 0, .iload_n 3] 124 = true := by decide +kernel
theorem kX9_checksum_128 : am_dec cX9_checksum 128 [.ladd, .lstore_n 1, .iinc 3 1] 133 = true := by decide +kernel
theorem kX9_checksum_136 : am_dec cX9_checksum 136 [.iconst 0, .istore_n 3] 138 = true := by decide +kernel
theorem kX9_checksum_138 : am_dec cX9_checksum 138 [.iload_n 3, .iconst 4] 140 = true := by decide +kernel
theorem kX9_checksum_146 : am_dec cX9_checksum 146 [.lload_n 1, .lmul, .aload_n 0, .iload_n 3] 150 = true := by decide +kernel
theorem kX9_checksum_154 : am_dec cX9_checksum 154 [.ladd, .lstore_n 1, .iinc 3 1] 159 = true := by decide +kernel
theorem kX9_checksum_162 : am_dec cX9_checksum 162 [.lload_n 1] 163 = true := by decide +kernel
theorem eX9_checksum_2 : decode cX9_checksum 2 = .ok (.putfield 32, 3) := by decide +kernel
theorem eX9_checksum_11 : decode cX9_checksum 11 = .ok (.getfield 17, 3) := by decide +kernel
theorem eX9_checksum_15 : decode cX9_checksum 15 = .ok (.iaload, 1) := by decide +kernel
theorem eX9_checksum_16 : decode cX9_checksum 16 = .ok (.if_icmp .ge 89, 3) := by decide +kernel
theorem eX9_checksum_19 : decode cX9_checksum 19 = .ok (.ldc2_w 324, 3) := by decide +kernel
theorem eX9_checksum_22 : decode cX9_checksum 22 = .ok (.ldc2_w 324, 3) := by decide +kernel
theorem eX9_checksum_28 : decode cX9_checksum 28 = .ok (.getfield 17, 3) := by decide +kernel
theorem eX9_checksum_32 : decode cX9_checksum 32 = .ok (.invokestatic 35, 3) := by decide +kernel
theorem eX9_checksum_35 : decode cX9_checksum 35 = .ok (.iaload, 1) := by decide +kernel
theorem eX9_checksum_36 : decode cX9_checksum 36 = .ok (.i2l, 1) := by decide +kernel
theorem eX9_checksum_40 : decode cX9_checksum 40 = .ok (.getfield 17, 3) := by decide +kernel
theorem eX9_checksum_44 : decode cX9_checksum 44 = .ok (.invokestatic 35, 3) := by decide +kernel
theorem eX9_checksum_49 : decode cX9_checksum 49 = .ok (.iaload, 1) := by decide +kernel
theorem eX9_checksum_50 : decode cX9_checksum 50 = .ok (.i2l, 1) := by decide +kernel
theorem eX9_checksum_60 : decode cX9_checksum 60 = .ok (.invokevirtual 39, 3) := by decide +kernel
theorem eX9_checksum_63 : decode cX9_checksum 63 = .ok (.if_icmp .ge 36, 3) := by decide +kernel
theorem eX9_checksum_66 : decode cX9_checksum 66 = .ok (.ldc2_w 324, 3) := by decide +kernel
theorem eX9_checksum_77 : decode cX9_checksum 77 = .ok (.invokevirtual 72, 3) := by decide +kernel
theorem eX9_checksum_81 : decode cX9_checksum 81 = .ok (.i2l, 1) := by decide +kernel
theorem eX9_checksum_87 : decode cX9_checksum 87 = .ok (.invokevirtual 75, 3) := by decide +kernel
theorem eX9_checksum_90 : decode cX9_checksum 90 = .ok (.i2l, 1) := by decide +kernel
theorem eX9_checksum_96 : decode cX9_checksum 96 = .ok (.goto (-40), 3) := by decide +kernel
theorem eX9_checksum_102 : decode cX9_checksum 102 = .ok (.goto (-93), 3) := by decide +kernel
theorem eX9_checksum_109 : decode cX9_checksum 109 = .ok (.getfield 17, 3) := by decide +kernel
theorem eX9_checksum_113 : decode cX9_checksum 113 = .ok (.iaload, 1) := by decide +kernel
theorem eX9_checksum_114 : decode cX9_checksum 114 = .ok (.if_icmp .ge 22, 3) := by decide +kernel
theorem eX9_checksum_117 : decode cX9_checksum 117 = .ok (.ldc2_w 324, 3) := by decide +kernel
theorem eX9_checksum_124 : decode cX9_checksum 124 = .ok (.invokevirtual 270, 3) := by decide +kernel
theorem eX9_checksum_127 : decode cX9_checksum 127 = .ok (.i2l, 1) := by decide +kernel
theorem eX9_checksum_133 : decode cX9_checksum 133 = .ok (.goto (-26), 3) := by decide +kernel
theorem eX9_checksum_140 : decode cX9_checksum 140 = .ok (.if_icmp .ge 22, 3) := by decide +kernel
theorem eX9_checksum_143 : decode cX9_checksum 143 = .ok (.ldc2_w 324, 3) := by decide +kernel
theorem eX9_checksum_150 : decode cX9_checksum 150 = .ok (.invokevirtual 312, 3) := by decide +kernel
theorem eX9_checksum_153 : decode cX9_checksum 153 = .ok (.i2l, 1) := by decide +kernel
theorem eX9_checksum_159 : decode cX9_checksum 159 = .ok (.goto (-21), 3) := by decide +kernel
theorem eX9_checksum_163 : decode cX9_checksum 163 = .ok (.lreturn, 1) := by decide +kernel
