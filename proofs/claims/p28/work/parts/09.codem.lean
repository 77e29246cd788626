/-! What the bytes are (by program). -/
theorem kX9_init_0 : am_dec cX9_init 0 [.aload_n 0] 1 = true := by decide +kernel
theorem kX9_init_4 : am_dec cX9_init 4 [.aload_n 0, .iconst 2] 6 = true := by decide +kernel
theorem kX9_init_9 : am_dec cX9_init 9 [.aload_n 0, .iconst 2] 11 = true := by decide +kernel
theorem kX9_init_14 : am_dec cX9_init 14 [.aload_n 0, .iconst 0] 16 = true := by decide +kernel
theorem kX9_init_22 : am_dec cX9_init 22 [.aload_n 0, .iconst 0] 24 = true := by decide +kernel
theorem eX9_init_1 : decode cX9_init 1 = .ok (.invokespecial 1, 3) := by decide +kernel
theorem eX9_init_6 : decode cX9_init 6 = .ok (.putfield 7, 3) := by decide +kernel
theorem eX9_init_11 : decode cX9_init 11 = .ok (.putfield 13, 3) := by decide +kernel
theorem eX9_init_16 : decode cX9_init 16 = .ok (.anewarray 16, 3) := by decide +kernel
theorem eX9_init_19 : decode cX9_init 19 = .ok (.putfield 18, 3) := by decide +kernel
theorem eX9_init_24 : decode cX9_init 24 = .ok (.anewarray 22, 3) := by decide +kernel
theorem eX9_init_27 : decode cX9_init 27 = .ok (.putfield 24, 3) := by decide +kernel
theorem eX9_init_30 : decode cX9_init 30 = .ok (.return_, 1) := by decide +kernel
theorem kX9_copy_3 : am_dec cX9_copy 3 [.dup] 4 = true := by decide +kernel
theorem kX9_copy_7 : am_dec cX9_copy 7 [.astore_n 1, .aload_n 1, .aload_n 0] 10 = true := by decide +kernel
theorem kX9_copy_16 : am_dec cX9_copy 16 [.aload_n 1, .aload_n 0] 18 = true := by decide +kernel
theorem kX9_copy_24 : am_dec cX9_copy 24 [.aload_n 1, .aload_n 0] 26 = true := by decide +kernel
theorem kX9_copy_32 : am_dec cX9_copy 32 [.aload_n 1, .aload_n 0] 34 = true := by decide +kernel
theorem kX9_copy_40 : am_dec cX9_copy 40 [.aload_n 1, .aload_n 0] 42 = true := by decide +kernel
theorem kX9_copy_52 : am_dec cX9_copy 52 [.iconst 0, .istore_n 2] 54 = true := by decide +kernel
theorem kX9_copy_54 : am_dec cX9_copy 54 [.iload_n 2, .aload_n 0] 56 = true := by decide +kernel
theorem kX9_copy_63 : am_dec cX9_copy 63 [.aload_n 1] 64 = true := by decide +kernel
theorem kX9_copy_67 : am_dec cX9_copy 67 [.iload_n 2, .aload_n 0] 69 = true := by decide +kernel
theorem kX9_copy_72 : am_dec cX9_copy 72 [.iload_n 2] 73 = true := by decide +kernel
theorem kX9_copy_78 : am_dec cX9_copy 78 [.iinc 2 1] 81 = true := by decide +kernel
theorem kX9_copy_84 : am_dec cX9_copy 84 [.aload_n 1] 85 = true := by decide +kernel
theorem eX9_copy_0 : decode cX9_copy 0 = .ok (.new 8, 3) := by decide +kernel
theorem eX9_copy_4 : decode cX9_copy 4 = .ok (.invokespecial 28, 3) := by decide +kernel
theorem eX9_copy_10 : decode cX9_copy 10 = .ok (.getfield 7, 3) := by decide +kernel
theorem eX9_copy_13 : decode cX9_copy 13 = .ok (.putfield 7, 3) := by decide +kernel
theorem eX9_copy_18 : decode cX9_copy 18 = .ok (.getfield 13, 3) := by decide +kernel
theorem eX9_copy_21 : decode cX9_copy 21 = .ok (.putfield 13, 3) := by decide +kernel
theorem eX9_copy_26 : decode cX9_copy 26 = .ok (.getfield 18, 3) := by decide +kernel
theorem eX9_copy_29 : decode cX9_copy 29 = .ok (.putfield 18, 3) := by decide +kernel
theorem eX9_copy_34 : decode cX9_copy 34 = .ok (.getfield 29, 3) := by decide +kernel
theorem eX9_copy_37 : decode cX9_copy 37 = .ok (.putfield 29, 3) := by decide +kernel
theorem eX9_copy_42 : decode cX9_copy 42 = .ok (.getfield 24, 3) := by decide +kernel
theorem eX9_copy_45 : decode cX9_copy 45 = .ok (.arraylength, 1) := by decide +kernel
theorem eX9_copy_46 : decode cX9_copy 46 = .ok (.anewarray 22, 3) := by decide +kernel
theorem eX9_copy_49 : decode cX9_copy 49 = .ok (.putfield 24, 3) := by decide +kernel
theorem eX9_copy_56 : decode cX9_copy 56 = .ok (.getfield 24, 3) := by decide +kernel
theorem eX9_copy_59 : decode cX9_copy 59 = .ok (.arraylength, 1) := by decide +kernel
theorem eX9_copy_60 : decode cX9_copy 60 = .ok (.if_icmp .ge 24, 3) := by decide +kernel
theorem eX9_copy_64 : decode cX9_copy 64 = .ok (.getfield 24, 3) := by decide +kernel
theorem eX9_copy_69 : decode cX9_copy 69 = .ok (.getfield 24, 3) := by decide +kernel
theorem eX9_copy_73 : decode cX9_copy 73 = .ok (.aaload, 1) := by decide +kernel
theorem eX9_copy_74 : decode cX9_copy 74 = .ok (.invokevirtual 33, 3) := by decide +kernel
theorem eX9_copy_77 : decode cX9_copy 77 = .ok (.aastore, 1) := by decide +kernel
theorem eX9_copy_81 : decode cX9_copy 81 = .ok (.goto (-27), 3) := by decide +kernel
theorem eX9_copy_85 : decode cX9_copy 85 = .ok (.areturn, 1) := by decide +kernel
theorem kX9_isStone_0 : am_dec cX9_isStone 0 [.iconst 0, .istore_n 3, .aload_n 0] 3 = true := by decide +kernel
theorem kX9_isStone_6 : am_dec cX9_isStone 6 [.astore 4, .aload 4] 10 = true := by decide +kernel
theorem kX9_isStone_11 : am_dec cX9_isStone 11 [.istore 5, .iconst 0, .istore 6] 16 = true := by decide +kernel
theorem kX9_isStone_16 : am_dec cX9_isStone 16 [.iload 6, .iload 5] 20 = true := by decide +kernel
theorem kX9_isStone_23 : am_dec cX9_isStone 23 [.aload 4, .iload 6] 27 = true := by decide +kernel
theorem kX9_isStone_28 : am_dec cX9_isStone 28 [.astore 7, .iload_n 3, .aload 7, .iconst 0] 34 = true := by decide +kernel
theorem kX9_isStone_35 : am_dec cX9_isStone 35 [.iload_n 1] 36 = true := by decide +kernel
theorem kX9_isStone_39 : am_dec cX9_isStone 39 [.aload 7, .iconst 1] 42 = true := by decide +kernel
theorem kX9_isStone_43 : am_dec cX9_isStone 43 [.iload_n 2] 44 = true := by decide +kernel
theorem kX9_isStone_47 : am_dec cX9_isStone 47 [.iconst 1] 48 = true := by decide +kernel
theorem kX9_isStone_51 : am_dec cX9_isStone 51 [.iconst 0] 52 = true := by decide +kernel
theorem kX9_isStone_53 : am_dec cX9_isStone 53 [.istore_n 3, .iinc 6 1] 57 = true := by decide +kernel
theorem kX9_isStone_60 : am_dec cX9_isStone 60 [.iload_n 3] 61 = true := by decide +kernel
theorem eX9_isStone_3 : decode cX9_isStone 3 = .ok (.getfield 18, 3) := by decide +kernel
theorem eX9_isStone_10 : decode cX9_isStone 10 = .ok (.arraylength, 1) := by decide +kernel
theorem eX9_isStone_20 : decode cX9_isStone 20 = .ok (.if_icmp .ge 40, 3) := by decide +kernel
theorem eX9_isStone_27 : decode cX9_isStone 27 = .ok (.aaload, 1) := by decide +kernel
theorem eX9_isStone_34 : decode cX9_isStone 34 = .ok (.iaload, 1) := by decide +kernel
theorem eX9_isStone_36 : decode cX9_isStone 36 = .ok (.if_icmp .ne 15, 3) := by decide +kernel
theorem eX9_isStone_42 : decode cX9_isStone 42 = .ok (.iaload, 1) := by decide +kernel
theorem eX9_isStone_44 : decode cX9_isStone 44 = .ok (.if_icmp .ne 7, 3) := by decide +kernel
theorem eX9_isStone_48 : decode cX9_isStone 48 = .ok (.goto 4, 3) := by decide +kernel
theorem eX9_isStone_52 : decode cX9_isStone 52 = .ok (.ior, 1) := by decide +kernel
theorem eX9_isStone_57 : decode cX9_isStone 57 = .ok (.goto (-41), 3) := by decide +kernel
theorem eX9_isStone_61 : decode cX9_isStone 61 = .ok (.ireturn, 1) := by decide +kernel
theorem kX9_isCorner_0 : am_dec cX9_isCorner 0 [.iconst 0, .istore_n 3, .aload_n 0] 3 = true := by decide +kernel
theorem kX9_isCorner_6 : am_dec cX9_isCorner 6 [.astore 4, .aload 4] 10 = true := by decide +kernel
theorem kX9_isCorner_11 : am_dec cX9_isCorner 11 [.istore 5, .iconst 0, .istore 6] 16 = true := by decide +kernel
theorem kX9_isCorner_16 : am_dec cX9_isCorner 16 [.iload 6, .iload 5] 20 = true := by decide +kernel
theorem kX9_isCorner_23 : am_dec cX9_isCorner 23 [.aload 4, .iload 6] 27 = true := by decide +kernel
theorem kX9_isCorner_28 : am_dec cX9_isCorner 28 [.astore 7, .aload 7] 32 = true := by decide +kernel
theorem kX9_isCorner_35 : am_dec cX9_isCorner 35 [.astore 8, .aload 8] 39 = true := by decide +kernel
theorem kX9_isCorner_40 : am_dec cX9_isCorner 40 [.istore 9, .iconst 0, .istore 10] 45 = true := by decide +kernel
theorem kX9_isCorner_45 : am_dec cX9_isCorner 45 [.iload 10, .iload 9] 49 = true := by decide +kernel
theorem kX9_isCorner_52 : am_dec cX9_isCorner 52 [.aload 8, .iload 10] 56 = true := by decide +kernel
theorem kX9_isCorner_57 : am_dec cX9_isCorner 57 [.istore 11, .iload_n 3, .iload 11, .bipush 100, .iload_n 1, .imul, .iload_n 2, .iadd] 68 = true := by decide +kernel
theorem kX9_isCorner_71 : am_dec cX9_isCorner 71 [.iconst 1] 72 = true := by decide +kernel
theorem kX9_isCorner_75 : am_dec cX9_isCorner 75 [.iconst 0] 76 = true := by decide +kernel
theorem kX9_isCorner_77 : am_dec cX9_isCorner 77 [.istore_n 3, .iinc 10 1] 81 = true := by decide +kernel
theorem kX9_isCorner_84 : am_dec cX9_isCorner 84 [.iinc 6 1] 87 = true := by decide +kernel
theorem kX9_isCorner_90 : am_dec cX9_isCorner 90 [.iload_n 3] 91 = true := by decide +kernel
theorem eX9_isCorner_3 : decode cX9_isCorner 3 = .ok (.getfield 24, 3) := by decide +kernel
theorem eX9_isCorner_10 : decode cX9_isCorner 10 = .ok (.arraylength, 1) := by decide +kernel
theorem eX9_isCorner_20 : decode cX9_isCorner 20 = .ok (.if_icmp .ge 70, 3) := by decide +kernel
theorem eX9_isCorner_27 : decode cX9_isCorner 27 = .ok (.aaload, 1) := by decide +kernel
theorem eX9_isCorner_32 : decode cX9_isCorner 32 = .ok (.getfield 37, 3) := by decide +kernel
theorem eX9_isCorner_39 : decode cX9_isCorner 39 = .ok (.arraylength, 1) := by decide +kernel
theorem eX9_isCorner_49 : decode cX9_isCorner 49 = .ok (.if_icmp .ge 35, 3) := by decide +kernel
theorem eX9_isCorner_56 : decode cX9_isCorner 56 = .ok (.iaload, 1) := by decide +kernel
theorem eX9_isCorner_68 : decode cX9_isCorner 68 = .ok (.if_icmp .ne 7, 3) := by decide +kernel
theorem eX9_isCorner_72 : decode cX9_isCorner 72 = .ok (.goto 4, 3) := by decide +kernel
theorem eX9_isCorner_76 : decode cX9_isCorner 76 = .ok (.ior, 1) := by decide +kernel
theorem eX9_isCorner_81 : decode cX9_isCorner 81 = .ok (.goto (-36), 3) := by decide +kernel
theorem eX9_isCorner_87 : decode cX9_isCorner 87 = .ok (.goto (-71), 3) := by decide +kernel
theorem eX9_isCorner_91 : decode cX9_isCorner 91 = .ok (.ireturn, 1) := by decide +kernel
theorem kX9_isOnSide_0 : am_dec cX9_isOnSide 0 [.aload_n 0] 1 = true := by decide +kernel
theorem kX9_isOnSide_4 : am_dec cX9_isOnSide 4 [.astore_n 3, .aload_n 3] 6 = true := by decide +kernel
theorem kX9_isOnSide_7 : am_dec cX9_isOnSide 7 [.istore 4, .iconst 0, .istore 5] 12 = true := by decide +kernel
theorem kX9_isOnSide_12 : am_dec cX9_isOnSide 12 [.iload 5, .iload 4] 16 = true := by decide +kernel
theorem kX9_isOnSide_19 : am_dec cX9_isOnSide 19 [.aload_n 3, .iload 5] 22 = true := by decide +kernel
theorem kX9_isOnSide_23 : am_dec cX9_isOnSide 23 [.astore 6, .iconst 0, .istore 7] 28 = true := by decide +kernel
theorem kX9_isOnSide_28 : am_dec cX9_isOnSide 28 [.iload 7, .aload 6] 32 = true := by decide +kernel
theorem kX9_isOnSide_38 : am_dec cX9_isOnSide 38 [.aload 6, .iload 7, .iconst 1, .iadd] 44 = true := by decide +kernel
theorem kX9_isOnSide_47 : am_dec cX9_isOnSide 47 [.aload 6, .iload 7] 51 = true := by decide +kernel
theorem kX9_isOnSide_54 : am_dec cX9_isOnSide 54 [.isub, .istore 8, .aload 6, .iload 7, .iconst 1, .iadd] 63 = true := by decide +kernel
theorem kX9_isOnSide_66 : am_dec cX9_isOnSide 66 [.aload 6, .iload 7] 70 = true := by decide +kernel
theorem kX9_isOnSide_73 : am_dec cX9_isOnSide 73 [.isub, .istore 9, .iload 8, .iload 9] 80 = true := by decide +kernel
theorem kX9_isOnSide_83 : am_dec cX9_isOnSide 83 [.istore 10, .iconst 0, .istore 11] 88 = true := by decide +kernel
theorem kX9_isOnSide_88 : am_dec cX9_isOnSide 88 [.iload 11, .iload 10] 92 = true := by decide +kernel
theorem kX9_isOnSide_95 : am_dec cX9_isOnSide 95 [.aload 6, .iload 7] 99 = true := by decide +kernel
theorem kX9_isOnSide_102 : am_dec cX9_isOnSide 102 [.iload 8, .iload 10] 106 = true := by decide +kernel
theorem kX9_isOnSide_107 : am_dec cX9_isOnSide 107 [.iload 11, .imul, .iadd, .iload_n 1] 112 = true := by decide +kernel
theorem kX9_isOnSide_115 : am_dec cX9_isOnSide 115 [.aload 6, .iload 7] 119 = true := by decide +kernel
theorem kX9_isOnSide_122 : am_dec cX9_isOnSide 122 [.iload 9, .iload 10] 126 = true := by decide +kernel
theorem kX9_isOnSide_127 : am_dec cX9_isOnSide 127 [.iload 11, .imul, .iadd, .iload_n 2] 132 = true := by decide +kernel
theorem kX9_isOnSide_135 : am_dec cX9_isOnSide 135 [.iconst 1] 136 = true := by decide +kernel
theorem kX9_isOnSide_137 : am_dec cX9_isOnSide 137 [.iinc 11 1] 140 = true := by decide +kernel
theorem kX9_isOnSide_143 : am_dec cX9_isOnSide 143 [.iinc 7 1] 146 = true := by decide +kernel
theorem kX9_isOnSide_149 : am_dec cX9_isOnSide 149 [.iinc 5 1] 152 = true := by decide +kernel
theorem kX9_isOnSide_155 : am_dec cX9_isOnSide 155 [.iconst 0] 156 = true := by decide +kernel
theorem eX9_isOnSide_1 : decode cX9_isOnSide 1 = .ok (.getfield 24, 3) := by decide +kernel
theorem eX9_isOnSide_6 : decode cX9_isOnSide 6 = .ok (.arraylength, 1) := by decide +kernel
theorem eX9_isOnSide_16 : decode cX9_isOnSide 16 = .ok (.if_icmp .ge 139, 3) := by decide +kernel
theorem eX9_isOnSide_22 : decode cX9_isOnSide 22 = .ok (.aaload, 1) := by decide +kernel
theorem eX9_isOnSide_32 : decode cX9_isOnSide 32 = .ok (.invokevirtual 40, 3) := by decide +kernel
theorem eX9_isOnSide_35 : decode cX9_isOnSide 35 = .ok (.if_icmp .ge 114, 3) := by decide +kernel
theorem eX9_isOnSide_44 : decode cX9_isOnSide 44 = .ok (.invokevirtual 44, 3) := by decide +kernel
theorem eX9_isOnSide_51 : decode cX9_isOnSide 51 = .ok (.invokevirtual 44, 3) := by decide +kernel
theorem eX9_isOnSide_63 : decode cX9_isOnSide 63 = .ok (.invokevirtual 48, 3) := by decide +kernel
theorem eX9_isOnSide_70 : decode cX9_isOnSide 70 = .ok (.invokevirtual 48, 3) := by decide +kernel
theorem eX9_isOnSide_80 : decode cX9_isOnSide 80 = .ok (.invokestatic 51, 3) := by decide +kernel
theorem eX9_isOnSide_92 : decode cX9_isOnSide 92 = .ok (.if_icmp .gt 51, 3) := by decide +kernel
theorem eX9_isOnSide_99 : decode cX9_isOnSide 99 = .ok (.invokevirtual 44, 3) := by decide +kernel
theorem eX9_isOnSide_106 : decode cX9_isOnSide 106 = .ok (.idiv, 1) := by decide +kernel
theorem eX9_isOnSide_112 : decode cX9_isOnSide 112 = .ok (.if_icmp .ne 25, 3) := by decide +kernel
theorem eX9_isOnSide_119 : decode cX9_isOnSide 119 = .ok (.invokevirtual 48, 3) := by decide +kernel
theorem eX9_isOnSide_126 : decode cX9_isOnSide 126 = .ok (.idiv, 1) := by decide +kernel
theorem eX9_isOnSide_132 : decode cX9_isOnSide 132 = .ok (.if_icmp .ne 5, 3) := by decide +kernel
theorem eX9_isOnSide_136 : decode cX9_isOnSide 136 = .ok (.ireturn, 1) := by decide +kernel
theorem eX9_isOnSide_140 : decode cX9_isOnSide 140 = .ok (.goto (-52), 3) := by decide +kernel
theorem eX9_isOnSide_146 : decode cX9_isOnSide 146 = .ok (.goto (-118), 3) := by decide +kernel
theorem eX9_isOnSide_152 : decode cX9_isOnSide 152 = .ok (.goto (-140), 3) := by decide +kernel
theorem eX9_isOnSide_156 : decode cX9_isOnSide 156 = .ok (.ireturn, 1) := by decide +kernel
theorem kX9_meet_0 : am_dec cX9_meet 0 [.iload_n 2, .iload_n 0, .isub, .iload 7, .iload 5, .isub, .imul, .iload_n 3, .iload_n 1, .isub, .iload 6, .iload 4, .isub, .imul, .isub, .istore 8, .iload 4, .iload_n 0, .isub, .iload 7, .iload 5, .isub, .imul, .iload 5, .iload_n 1, .isub, .iload 6, .iload 4, .isub, .imul, .isub, .istore 9, .iload 4, .iload_n 0, .isub, .iload_n 3, .iload_n 1, .isub, .imul, .iload 5, .iload_n 1, .isub, .iload_n 2, .iload_n 0, .isub, .imul, .isub, .istore 10, .iload 8] 65 = true := by decide +kernel
theorem kX9_meet_68 : am_dec cX9_meet 68 [.iload 8, .ineg, .istore 8, .iload 9, .ineg, .istore 9, .iload 10, .ineg, .istore 10] 83 = true := by decide +kernel
theorem kX9_meet_83 : am_dec cX9_meet 83 [.iload 8] 85 = true := by decide +kernel
theorem kX9_meet_88 : am_dec cX9_meet 88 [.iload 9] 90 = true := by decide +kernel
theorem kX9_meet_93 : am_dec cX9_meet 93 [.iload 9, .iload 8] 97 = true := by decide +kernel
theorem kX9_meet_100 : am_dec cX9_meet 100 [.iload 10] 102 = true := by decide +kernel
theorem kX9_meet_105 : am_dec cX9_meet 105 [.iload 10, .iload 8] 109 = true := by decide +kernel
theorem kX9_meet_112 : am_dec cX9_meet 112 [.iconst 0] 113 = true := by decide +kernel
theorem kX9_meet_114 : am_dec cX9_meet 114 [.iload 9] 116 = true := by decide +kernel
theorem kX9_meet_119 : am_dec cX9_meet 119 [.iload 9, .iload 8] 123 = true := by decide +kernel
theorem kX9_meet_126 : am_dec cX9_meet 126 [.iload 10] 128 = true := by decide +kernel
theorem kX9_meet_131 : am_dec cX9_meet 131 [.iload 10, .iload 8] 135 = true := by decide +kernel
theorem kX9_meet_138 : am_dec cX9_meet 138 [.iconst 1] 139 = true := by decide +kernel
theorem kX9_meet_142 : am_dec cX9_meet 142 [.iconst 0] 143 = true := by decide +kernel
theorem kX9_meet_144 : am_dec cX9_meet 144 [.iload 10] 146 = true := by decide +kernel
theorem kX9_meet_149 : am_dec cX9_meet 149 [.iconst 0] 150 = true := by decide +kernel
theorem kX9_meet_151 : am_dec cX9_meet 151 [.iload_n 2, .iload_n 0, .isub, .iload_n 2, .iload_n 0, .isub, .imul, .iload_n 3, .iload_n 1, .isub, .iload_n 3, .iload_n 1, .isub, .imul, .iadd, .istore 11, .iload 4, .iload_n 0, .isub, .iload_n 2, .iload_n 0, .isub, .imul, .iload 5, .iload_n 1, .isub, .iload_n 3, .iload_n 1, .isub, .imul, .iadd, .istore 12, .iload 6, .iload_n 0, .isub, .iload_n 2, .iload_n 0, .isub, .imul, .iload 7, .iload_n 1, .isub, .iload_n 3, .iload_n 1, .isub, .imul, .iadd, .istore 13, .iload 12, .iload 13] 210 = true := by decide +kernel
theorem kX9_meet_213 : am_dec cX9_meet 213 [.iload 11] 215 = true := by decide +kernel
theorem kX9_meet_218 : am_dec cX9_meet 218 [.iload 12, .iload 13] 222 = true := by decide +kernel
theorem kX9_meet_225 : am_dec cX9_meet 225 [.iconst 0] 226 = true := by decide +kernel
theorem kX9_meet_232 : am_dec cX9_meet 232 [.iconst 1] 233 = true := by decide +kernel
theorem kX9_meet_236 : am_dec cX9_meet 236 [.iconst 0] 237 = true := by decide +kernel
theorem eX9_meet_65 : decode cX9_meet 65 = .ok (.ifCond .ge 18, 3) := by decide +kernel
theorem eX9_meet_85 : decode cX9_meet 85 = .ok (.ifCond .le 59, 3) := by decide +kernel
theorem eX9_meet_90 : decode cX9_meet 90 = .ok (.ifCond .lt 22, 3) := by decide +kernel
theorem eX9_meet_97 : decode cX9_meet 97 = .ok (.if_icmp .gt 15, 3) := by decide +kernel
theorem eX9_meet_102 : decode cX9_meet 102 = .ok (.ifCond .lt 10, 3) := by decide +kernel
theorem eX9_meet_109 : decode cX9_meet 109 = .ok (.if_icmp .le 5, 3) := by decide +kernel
theorem eX9_meet_113 : decode cX9_meet 113 = .ok (.ireturn, 1) := by decide +kernel
theorem eX9_meet_116 : decode cX9_meet 116 = .ok (.ifCond .eq 10, 3) := by decide +kernel
theorem eX9_meet_123 : decode cX9_meet 123 = .ok (.if_icmp .ne 15, 3) := by decide +kernel
theorem eX9_meet_128 : decode cX9_meet 128 = .ok (.ifCond .eq 14, 3) := by decide +kernel
theorem eX9_meet_135 : decode cX9_meet 135 = .ok (.if_icmp .eq 7, 3) := by decide +kernel
theorem eX9_meet_139 : decode cX9_meet 139 = .ok (.goto 4, 3) := by decide +kernel
theorem eX9_meet_143 : decode cX9_meet 143 = .ok (.ireturn, 1) := by decide +kernel
theorem eX9_meet_146 : decode cX9_meet 146 = .ok (.ifCond .eq 5, 3) := by decide +kernel
theorem eX9_meet_150 : decode cX9_meet 150 = .ok (.ireturn, 1) := by decide +kernel
theorem eX9_meet_210 : decode cX9_meet 210 = .ok (.invokestatic 57, 3) := by decide +kernel
theorem eX9_meet_215 : decode cX9_meet 215 = .ok (.invokestatic 62, 3) := by decide +kernel
theorem eX9_meet_222 : decode cX9_meet 222 = .ok (.invokestatic 62, 3) := by decide +kernel
theorem eX9_meet_226 : decode cX9_meet 226 = .ok (.invokestatic 57, 3) := by decide +kernel
theorem eX9_meet_229 : decode cX9_meet 229 = .ok (.if_icmp .le 7, 3) := by decide +kernel
theorem eX9_meet_233 : decode cX9_meet 233 = .ok (.goto 4, 3) := by decide +kernel
theorem eX9_meet_237 : decode cX9_meet 237 = .ok (.ireturn, 1) := by decide +kernel
theorem kX9_line_0 : am_dec cX9_line 0 [.iload_n 3, .iload_n 1, .isub, .iload 4, .iload_n 2, .isub] 7 = true := by decide +kernel
theorem kX9_line_10 : am_dec cX9_line 10 [.istore 9, .iconst 1, .istore 10] 15 = true := by decide +kernel
theorem kX9_line_15 : am_dec cX9_line 15 [.iload 10, .iload 9] 19 = true := by decide +kernel
theorem kX9_line_22 : am_dec cX9_line 22 [.iload_n 1, .iload_n 3, .iload_n 1, .isub, .iload 9] 28 = true := by decide +kernel
theorem kX9_line_29 : am_dec cX9_line 29 [.iload 10, .imul, .iadd, .istore 11, .iload_n 2, .iload 4, .iload_n 2, .isub, .iload 9] 42 = true := by decide +kernel
theorem kX9_line_43 : am_dec cX9_line 43 [.iload 10, .imul, .iadd, .istore 12, .aload_n 0, .iload 11, .iload 12] 54 = true := by decide +kernel
theorem kX9_line_60 : am_dec cX9_line 60 [.iconst 4] 61 = true := by decide +kernel
theorem kX9_line_62 : am_dec cX9_line 62 [.aload_n 0, .iload 11, .iload 12] 67 = true := by decide +kernel
theorem kX9_line_73 : am_dec cX9_line 73 [.iload 8] 75 = true := by decide +kernel
theorem kX9_line_78 : am_dec cX9_line 78 [.aload_n 0] 79 = true := by decide +kernel
theorem kX9_line_82 : am_dec cX9_line 82 [.iload 5] 84 = true := by decide +kernel
theorem kX9_line_88 : am_dec cX9_line 88 [.iload 8] 90 = true := by decide +kernel
theorem kX9_line_91 : am_dec cX9_line 91 [.bipush 100, .iload 11, .imul, .iload 12, .iadd] 99 = true := by decide +kernel
theorem kX9_line_102 : am_dec cX9_line 102 [.iconst 4] 103 = true := by decide +kernel
theorem kX9_line_104 : am_dec cX9_line 104 [.iinc 10 1] 107 = true := by decide +kernel
theorem kX9_line_110 : am_dec cX9_line 110 [.iconst 0, .istore 10] 113 = true := by decide +kernel
theorem kX9_line_113 : am_dec cX9_line 113 [.iload 10, .aload_n 0] 116 = true := by decide +kernel
theorem kX9_line_123 : am_dec cX9_line 123 [.aload_n 0] 124 = true := by decide +kernel
theorem kX9_line_127 : am_dec cX9_line 127 [.iload 10] 129 = true := by decide +kernel
theorem kX9_line_130 : am_dec cX9_line 130 [.astore 11, .iconst 0, .istore 12] 135 = true := by decide +kernel
theorem kX9_line_135 : am_dec cX9_line 135 [.iload 12, .aload 11] 139 = true := by decide +kernel
theorem kX9_line_145 : am_dec cX9_line 145 [.iload 10, .iload 5] 149 = true := by decide +kernel
theorem kX9_line_152 : am_dec cX9_line 152 [.iload 12, .iload 6] 156 = true := by decide +kernel
theorem kX9_line_159 : am_dec cX9_line 159 [.iload 12, .iload 7] 163 = true := by decide +kernel
theorem kX9_line_169 : am_dec cX9_line 169 [.iload_n 1, .iload_n 2, .iload_n 3, .iload 4, .aload 11, .iload 12] 178 = true := by decide +kernel
theorem kX9_line_181 : am_dec cX9_line 181 [.aload 11, .iload 12] 185 = true := by decide +kernel
theorem kX9_line_188 : am_dec cX9_line 188 [.aload 11, .iload 12, .iconst 1, .iadd] 194 = true := by decide +kernel
theorem kX9_line_197 : am_dec cX9_line 197 [.aload 11, .iload 12, .iconst 1, .iadd] 203 = true := by decide +kernel
theorem kX9_line_212 : am_dec cX9_line 212 [.iconst 5] 213 = true := by decide +kernel
theorem kX9_line_214 : am_dec cX9_line 214 [.iinc 12 1] 217 = true := by decide +kernel
theorem kX9_line_220 : am_dec cX9_line 220 [.iinc 10 1] 223 = true := by decide +kernel
theorem kX9_line_226 : am_dec cX9_line 226 [.iconst 0] 227 = true := by decide +kernel
theorem eX9_line_7 : decode cX9_line 7 = .ok (.invokestatic 51, 3) := by decide +kernel
theorem eX9_line_19 : decode cX9_line 19 = .ok (.if_icmp .ge 91, 3) := by decide +kernel
theorem eX9_line_28 : decode cX9_line 28 = .ok (.idiv, 1) := by decide +kernel
theorem eX9_line_42 : decode cX9_line 42 = .ok (.idiv, 1) := by decide +kernel
theorem eX9_line_54 : decode cX9_line 54 = .ok (.invokevirtual 65, 3) := by decide +kernel
theorem eX9_line_57 : decode cX9_line 57 = .ok (.ifCond .eq 5, 3) := by decide +kernel
theorem eX9_line_61 : decode cX9_line 61 = .ok (.ireturn, 1) := by decide +kernel
theorem eX9_line_67 : decode cX9_line 67 = .ok (.invokevirtual 69, 3) := by decide +kernel
theorem eX9_line_70 : decode cX9_line 70 = .ok (.ifCond .eq 34, 3) := by decide +kernel
theorem eX9_line_75 : decode cX9_line 75 = .ok (.ifCond .lt 27, 3) := by decide +kernel
theorem eX9_line_79 : decode cX9_line 79 = .ok (.getfield 24, 3) := by decide +kernel
theorem eX9_line_84 : decode cX9_line 84 = .ok (.aaload, 1) := by decide +kernel
theorem eX9_line_85 : decode cX9_line 85 = .ok (.getfield 37, 3) := by decide +kernel
theorem eX9_line_90 : decode cX9_line 90 = .ok (.iaload, 1) := by decide +kernel
theorem eX9_line_99 : decode cX9_line 99 = .ok (.if_icmp .eq 5, 3) := by decide +kernel
theorem eX9_line_103 : decode cX9_line 103 = .ok (.ireturn, 1) := by decide +kernel
theorem eX9_line_107 : decode cX9_line 107 = .ok (.goto (-92), 3) := by decide +kernel
theorem eX9_line_116 : decode cX9_line 116 = .ok (.getfield 24, 3) := by decide +kernel
theorem eX9_line_119 : decode cX9_line 119 = .ok (.arraylength, 1) := by decide +kernel
theorem eX9_line_120 : decode cX9_line 120 = .ok (.if_icmp .ge 106, 3) := by decide +kernel
theorem eX9_line_124 : decode cX9_line 124 = .ok (.getfield 24, 3) := by decide +kernel
theorem eX9_line_129 : decode cX9_line 129 = .ok (.aaload, 1) := by decide +kernel
theorem eX9_line_139 : decode cX9_line 139 = .ok (.invokevirtual 40, 3) := by decide +kernel
theorem eX9_line_142 : decode cX9_line 142 = .ok (.if_icmp .ge 78, 3) := by decide +kernel
theorem eX9_line_149 : decode cX9_line 149 = .ok (.if_icmp .ne 20, 3) := by decide +kernel
theorem eX9_line_156 : decode cX9_line 156 = .ok (.if_icmp .eq 58, 3) := by decide +kernel
theorem eX9_line_163 : decode cX9_line 163 = .ok (.if_icmp .ne 6, 3) := by decide +kernel
theorem eX9_line_166 : decode cX9_line 166 = .ok (.goto 48, 3) := by decide +kernel
theorem eX9_line_178 : decode cX9_line 178 = .ok (.invokevirtual 44, 3) := by decide +kernel
theorem eX9_line_185 : decode cX9_line 185 = .ok (.invokevirtual 48, 3) := by decide +kernel
theorem eX9_line_194 : decode cX9_line 194 = .ok (.invokevirtual 44, 3) := by decide +kernel
theorem eX9_line_203 : decode cX9_line 203 = .ok (.invokevirtual 48, 3) := by decide +kernel
theorem eX9_line_206 : decode cX9_line 206 = .ok (.invokestatic 72, 3) := by decide +kernel
theorem eX9_line_209 : decode cX9_line 209 = .ok (.ifCond .eq 5, 3) := by decide +kernel
theorem eX9_line_213 : decode cX9_line 213 = .ok (.ireturn, 1) := by decide +kernel
theorem eX9_line_217 : decode cX9_line 217 = .ok (.goto (-82), 3) := by decide +kernel
theorem eX9_line_223 : decode cX9_line 223 = .ok (.goto (-110), 3) := by decide +kernel
theorem eX9_line_227 : decode cX9_line 227 = .ok (.ireturn, 1) := by decide +kernel
theorem kX9_corner_0 : am_dec cX9_corner 0 [.aload_n 0] 1 = true := by decide +kernel
theorem kX9_corner_4 : am_dec cX9_corner 4 [.iload_n 1] 5 = true := by decide +kernel
theorem kX9_corner_6 : am_dec cX9_corner 6 [.astore 4, .aload 4] 10 = true := by decide +kernel
theorem kX9_corner_14 : am_dec cX9_corner 14 [.istore 5, .aload 4] 18 = true := by decide +kernel
theorem kX9_corner_24 : am_dec cX9_corner 24 [.iconst 1] 25 = true := by decide +kernel
theorem kX9_corner_26 : am_dec cX9_corner 26 [.iload 5, .bipush 12] 30 = true := by decide +kernel
theorem kX9_corner_33 : am_dec cX9_corner 33 [.iconst 2] 34 = true := by decide +kernel
theorem kX9_corner_35 : am_dec cX9_corner 35 [.aload_n 0, .iload_n 2, .iload_n 3] 38 = true := by decide +kernel
theorem kX9_corner_44 : am_dec cX9_corner 44 [.aload_n 0, .iload_n 2, .iload_n 3] 47 = true := by decide +kernel
theorem kX9_corner_53 : am_dec cX9_corner 53 [.iconst 3] 54 = true := by decide +kernel
theorem kX9_corner_55 : am_dec cX9_corner 55 [.aload_n 0, .aload 4, .iload 5, .iconst 1, .isub] 62 = true := by decide +kernel
theorem kX9_corner_65 : am_dec cX9_corner 65 [.aload 4, .iload 5, .iconst 1, .isub] 71 = true := by decide +kernel
theorem kX9_corner_74 : am_dec cX9_corner 74 [.iload_n 2, .iload_n 3, .iconst (-1), .iconst (-1), .iconst (-1), .iconst (-1)] 80 = true := by decide +kernel
theorem eX9_corner_1 : decode cX9_corner 1 = .ok (.getfield 24, 3) := by decide +kernel
theorem eX9_corner_5 : decode cX9_corner 5 = .ok (.aaload, 1) := by decide +kernel
theorem eX9_corner_10 : decode cX9_corner 10 = .ok (.getfield 37, 3) := by decide +kernel
theorem eX9_corner_13 : decode cX9_corner 13 = .ok (.arraylength, 1) := by decide +kernel
theorem eX9_corner_18 : decode cX9_corner 18 = .ok (.getfield 76, 3) := by decide +kernel
theorem eX9_corner_21 : decode cX9_corner 21 = .ok (.ifCond .eq 5, 3) := by decide +kernel
theorem eX9_corner_25 : decode cX9_corner 25 = .ok (.ireturn, 1) := by decide +kernel
theorem eX9_corner_30 : decode cX9_corner 30 = .ok (.if_icmp .ne 5, 3) := by decide +kernel
theorem eX9_corner_34 : decode cX9_corner 34 = .ok (.ireturn, 1) := by decide +kernel
theorem eX9_corner_38 : decode cX9_corner 38 = .ok (.invokevirtual 65, 3) := by decide +kernel
theorem eX9_corner_41 : decode cX9_corner 41 = .ok (.ifCond .ne 12, 3) := by decide +kernel
theorem eX9_corner_47 : decode cX9_corner 47 = .ok (.invokevirtual 69, 3) := by decide +kernel
theorem eX9_corner_50 : decode cX9_corner 50 = .ok (.ifCond .eq 5, 3) := by decide +kernel
theorem eX9_corner_54 : decode cX9_corner 54 = .ok (.ireturn, 1) := by decide +kernel
theorem eX9_corner_62 : decode cX9_corner 62 = .ok (.invokevirtual 44, 3) := by decide +kernel
theorem eX9_corner_71 : decode cX9_corner 71 = .ok (.invokevirtual 48, 3) := by decide +kernel
theorem eX9_corner_80 : decode cX9_corner 80 = .ok (.invokevirtual 80, 3) := by decide +kernel
theorem eX9_corner_83 : decode cX9_corner 83 = .ok (.ireturn, 1) := by decide +kernel
theorem kX9_close_0 : am_dec cX9_close 0 [.aload_n 0] 1 = true := by decide +kernel
theorem kX9_close_4 : am_dec cX9_close 4 [.iload_n 1] 5 = true := by decide +kernel
theorem kX9_close_6 : am_dec cX9_close 6 [.astore_n 2, .aload_n 2] 8 = true := by decide +kernel
theorem kX9_close_12 : am_dec cX9_close 12 [.istore_n 3, .aload_n 2] 14 = true := by decide +kernel
theorem kX9_close_20 : am_dec cX9_close 20 [.iconst 1] 21 = true := by decide +kernel
theorem kX9_close_24 : am_dec cX9_close 24 [.iload_n 3, .iconst 3] 26 = true := by decide +kernel
theorem kX9_close_29 : am_dec cX9_close 29 [.bipush 6] 31 = true := by decide +kernel
theorem kX9_close_34 : am_dec cX9_close 34 [.aload_n 0, .aload_n 2, .iload_n 3, .iconst 1, .isub] 39 = true := by decide +kernel
theorem kX9_close_42 : am_dec cX9_close 42 [.aload_n 2, .iload_n 3, .iconst 1, .isub] 46 = true := by decide +kernel
theorem kX9_close_49 : am_dec cX9_close 49 [.aload_n 2, .iconst 0] 51 = true := by decide +kernel
theorem kX9_close_54 : am_dec cX9_close 54 [.aload_n 2, .iconst 0] 56 = true := by decide +kernel
theorem kX9_close_59 : am_dec cX9_close 59 [.iconst (-1), .iconst (-1), .iconst (-1), .iconst (-1)] 63 = true := by decide +kernel
theorem eX9_close_1 : decode cX9_close 1 = .ok (.getfield 24, 3) := by decide +kernel
theorem eX9_close_5 : decode cX9_close 5 = .ok (.aaload, 1) := by decide +kernel
theorem eX9_close_8 : decode cX9_close 8 = .ok (.getfield 37, 3) := by decide +kernel
theorem eX9_close_11 : decode cX9_close 11 = .ok (.arraylength, 1) := by decide +kernel
theorem eX9_close_14 : decode cX9_close 14 = .ok (.getfield 76, 3) := by decide +kernel
theorem eX9_close_17 : decode cX9_close 17 = .ok (.ifCond .eq 7, 3) := by decide +kernel
theorem eX9_close_21 : decode cX9_close 21 = .ok (.goto 45, 3) := by decide +kernel
theorem eX9_close_26 : decode cX9_close 26 = .ok (.if_icmp .ge 8, 3) := by decide +kernel
theorem eX9_close_31 : decode cX9_close 31 = .ok (.goto 35, 3) := by decide +kernel
theorem eX9_close_39 : decode cX9_close 39 = .ok (.invokevirtual 44, 3) := by decide +kernel
theorem eX9_close_46 : decode cX9_close 46 = .ok (.invokevirtual 48, 3) := by decide +kernel
theorem eX9_close_51 : decode cX9_close 51 = .ok (.invokevirtual 44, 3) := by decide +kernel
theorem eX9_close_56 : decode cX9_close 56 = .ok (.invokevirtual 48, 3) := by decide +kernel
theorem eX9_close_63 : decode cX9_close 63 = .ok (.invokevirtual 80, 3) := by decide +kernel
theorem eX9_close_66 : decode cX9_close 66 = .ok (.ireturn, 1) := by decide +kernel
theorem kX9_bend_0 : am_dec cX9_bend 0 [.aload_n 0] 1 = true := by decide +kernel
theorem kX9_bend_4 : am_dec cX9_bend 4 [.iload_n 1] 5 = true := by decide +kernel
theorem kX9_bend_6 : am_dec cX9_bend 6 [.astore 5, .aload 5] 10 = true := by decide +kernel
theorem kX9_bend_16 : am_dec cX9_bend 16 [.iconst 1] 17 = true := by decide +kernel
theorem kX9_bend_18 : am_dec cX9_bend 18 [.aload 5] 20 = true := by decide +kernel
theorem kX9_bend_24 : am_dec cX9_bend 24 [.bipush 12] 26 = true := by decide +kernel
theorem kX9_bend_29 : am_dec cX9_bend 29 [.iconst 2] 30 = true := by decide +kernel
theorem kX9_bend_31 : am_dec cX9_bend 31 [.aload_n 0, .iload_n 3, .iload 4] 35 = true := by decide +kernel
theorem kX9_bend_41 : am_dec cX9_bend 41 [.aload_n 0, .iload_n 3, .iload 4] 45 = true := by decide +kernel
theorem kX9_bend_51 : am_dec cX9_bend 51 [.iconst 3] 52 = true := by decide +kernel
theorem kX9_bend_53 : am_dec cX9_bend 53 [.aload_n 0, .aload 5, .iload_n 2] 57 = true := by decide +kernel
theorem kX9_bend_60 : am_dec cX9_bend 60 [.aload 5, .iload_n 2] 63 = true := by decide +kernel
theorem kX9_bend_66 : am_dec cX9_bend 66 [.iload_n 3, .iload 4, .iload_n 1, .iload_n 2, .iconst (-1), .iconst (-1)] 73 = true := by decide +kernel
theorem kX9_bend_76 : am_dec cX9_bend 76 [.istore 6, .iload 6] 80 = true := by decide +kernel
theorem kX9_bend_83 : am_dec cX9_bend 83 [.iload 6] 85 = true := by decide +kernel
theorem kX9_bend_88 : am_dec cX9_bend 88 [.aload_n 0, .aload 5, .iload_n 2, .iconst 1, .iadd] 94 = true := by decide +kernel
theorem kX9_bend_97 : am_dec cX9_bend 97 [.aload 5, .iload_n 2, .iconst 1, .iadd] 102 = true := by decide +kernel
theorem kX9_bend_105 : am_dec cX9_bend 105 [.iload_n 3, .iload 4, .iload_n 1, .iload_n 2, .iconst (-1), .iconst (-1)] 112 = true := by decide +kernel
theorem eX9_bend_1 : decode cX9_bend 1 = .ok (.getfield 24, 3) := by decide +kernel
theorem eX9_bend_5 : decode cX9_bend 5 = .ok (.aaload, 1) := by decide +kernel
theorem eX9_bend_10 : decode cX9_bend 10 = .ok (.getfield 76, 3) := by decide +kernel
theorem eX9_bend_13 : decode cX9_bend 13 = .ok (.ifCond .ne 5, 3) := by decide +kernel
theorem eX9_bend_17 : decode cX9_bend 17 = .ok (.ireturn, 1) := by decide +kernel
theorem eX9_bend_20 : decode cX9_bend 20 = .ok (.getfield 37, 3) := by decide +kernel
theorem eX9_bend_23 : decode cX9_bend 23 = .ok (.arraylength, 1) := by decide +kernel
theorem eX9_bend_26 : decode cX9_bend 26 = .ok (.if_icmp .ne 5, 3) := by decide +kernel
theorem eX9_bend_30 : decode cX9_bend 30 = .ok (.ireturn, 1) := by decide +kernel
theorem eX9_bend_35 : decode cX9_bend 35 = .ok (.invokevirtual 65, 3) := by decide +kernel
theorem eX9_bend_38 : decode cX9_bend 38 = .ok (.ifCond .ne 13, 3) := by decide +kernel
theorem eX9_bend_45 : decode cX9_bend 45 = .ok (.invokevirtual 69, 3) := by decide +kernel
theorem eX9_bend_48 : decode cX9_bend 48 = .ok (.ifCond .eq 5, 3) := by decide +kernel
theorem eX9_bend_52 : decode cX9_bend 52 = .ok (.ireturn, 1) := by decide +kernel
theorem eX9_bend_57 : decode cX9_bend 57 = .ok (.invokevirtual 44, 3) := by decide +kernel
theorem eX9_bend_63 : decode cX9_bend 63 = .ok (.invokevirtual 48, 3) := by decide +kernel
theorem eX9_bend_73 : decode cX9_bend 73 = .ok (.invokevirtual 80, 3) := by decide +kernel
theorem eX9_bend_80 : decode cX9_bend 80 = .ok (.ifCond .le 8, 3) := by decide +kernel
theorem eX9_bend_85 : decode cX9_bend 85 = .ok (.goto 30, 3) := by decide +kernel
theorem eX9_bend_94 : decode cX9_bend 94 = .ok (.invokevirtual 44, 3) := by decide +kernel
theorem eX9_bend_102 : decode cX9_bend 102 = .ok (.invokevirtual 48, 3) := by decide +kernel
theorem eX9_bend_112 : decode cX9_bend 112 = .ok (.invokevirtual 80, 3) := by decide +kernel
theorem eX9_bend_115 : decode cX9_bend 115 = .ok (.ireturn, 1) := by decide +kernel
theorem kX9_takeOut_0 : am_dec cX9_takeOut 0 [.aload_n 0] 1 = true := by decide +kernel
theorem kX9_takeOut_4 : am_dec cX9_takeOut 4 [.iload_n 1] 5 = true := by decide +kernel
theorem kX9_takeOut_6 : am_dec cX9_takeOut 6 [.astore_n 3, .aload_n 3] 8 = true := by decide +kernel
theorem kX9_takeOut_12 : am_dec cX9_takeOut 12 [.istore 4, .aload_n 3] 15 = true := by decide +kernel
theorem kX9_takeOut_21 : am_dec cX9_takeOut 21 [.iconst 1] 22 = true := by decide +kernel
theorem kX9_takeOut_23 : am_dec cX9_takeOut 23 [.iload 4, .iconst 3] 26 = true := by decide +kernel
theorem kX9_takeOut_29 : am_dec cX9_takeOut 29 [.bipush 6] 31 = true := by decide +kernel
theorem kX9_takeOut_32 : am_dec cX9_takeOut 32 [.iload_n 2, .iload 4, .iadd, .iconst 1, .isub, .iload 4] 40 = true := by decide +kernel
theorem kX9_takeOut_41 : am_dec cX9_takeOut 41 [.istore 5, .aload_n 0, .aload_n 3, .iload 5] 47 = true := by decide +kernel
theorem kX9_takeOut_50 : am_dec cX9_takeOut 50 [.aload_n 3, .iload 5] 53 = true := by decide +kernel
theorem kX9_takeOut_56 : am_dec cX9_takeOut 56 [.aload_n 3, .iload_n 2, .iconst 1, .iadd] 60 = true := by decide +kernel
theorem kX9_takeOut_63 : am_dec cX9_takeOut 63 [.aload_n 3, .iload_n 2, .iconst 1, .iadd] 67 = true := by decide +kernel
theorem kX9_takeOut_70 : am_dec cX9_takeOut 70 [.iload_n 1, .iload 5, .iload_n 2, .iload_n 2] 75 = true := by decide +kernel
theorem eX9_takeOut_1 : decode cX9_takeOut 1 = .ok (.getfield 24, 3) := by decide +kernel
theorem eX9_takeOut_5 : decode cX9_takeOut 5 = .ok (.aaload, 1) := by decide +kernel
theorem eX9_takeOut_8 : decode cX9_takeOut 8 = .ok (.getfield 37, 3) := by decide +kernel
theorem eX9_takeOut_11 : decode cX9_takeOut 11 = .ok (.arraylength, 1) := by decide +kernel
theorem eX9_takeOut_15 : decode cX9_takeOut 15 = .ok (.getfield 76, 3) := by decide +kernel
theorem eX9_takeOut_18 : decode cX9_takeOut 18 = .ok (.ifCond .ne 5, 3) := by decide +kernel
theorem eX9_takeOut_22 : decode cX9_takeOut 22 = .ok (.ireturn, 1) := by decide +kernel
theorem eX9_takeOut_26 : decode cX9_takeOut 26 = .ok (.if_icmp .ne 6, 3) := by decide +kernel
theorem eX9_takeOut_31 : decode cX9_takeOut 31 = .ok (.ireturn, 1) := by decide +kernel
theorem eX9_takeOut_40 : decode cX9_takeOut 40 = .ok (.irem, 1) := by decide +kernel
theorem eX9_takeOut_47 : decode cX9_takeOut 47 = .ok (.invokevirtual 44, 3) := by decide +kernel
theorem eX9_takeOut_53 : decode cX9_takeOut 53 = .ok (.invokevirtual 48, 3) := by decide +kernel
theorem eX9_takeOut_60 : decode cX9_takeOut 60 = .ok (.invokevirtual 44, 3) := by decide +kernel
theorem eX9_takeOut_67 : decode cX9_takeOut 67 = .ok (.invokevirtual 48, 3) := by decide +kernel
theorem eX9_takeOut_75 : decode cX9_takeOut 75 = .ok (.invokevirtual 80, 3) := by decide +kernel
theorem eX9_takeOut_78 : decode cX9_takeOut 78 = .ok (.ireturn, 1) := by decide +kernel
theorem kX9_smallest_0 : am_dec cX9_smallest 0 [.iconst (-1), .istore 4, .aload_n 0] 4 = true := by decide +kernel
theorem kX9_smallest_8 : am_dec cX9_smallest 8 [.iconst 1, .isub, .istore 5] 12 = true := by decide +kernel
theorem kX9_smallest_12 : am_dec cX9_smallest 12 [.iload 5] 14 = true := by decide +kernel
theorem kX9_smallest_17 : am_dec cX9_smallest 17 [.iload 5, .iload_n 3] 20 = true := by decide +kernel
theorem kX9_smallest_23 : am_dec cX9_smallest 23 [.aload_n 0] 24 = true := by decide +kernel
theorem kX9_smallest_27 : am_dec cX9_smallest 27 [.iload 5] 29 = true := by decide +kernel
theorem kX9_smallest_36 : am_dec cX9_smallest 36 [.aload_n 0] 37 = true := by decide +kernel
theorem kX9_smallest_40 : am_dec cX9_smallest 40 [.iload 5] 42 = true := by decide +kernel
theorem kX9_smallest_43 : am_dec cX9_smallest 43 [.iload_n 1, .iload_n 2] 45 = true := by decide +kernel
theorem kX9_smallest_48 : am_dec cX9_smallest 48 [.iconst 2] 49 = true := by decide +kernel
theorem kX9_smallest_52 : am_dec cX9_smallest 52 [.iload 4] 54 = true := by decide +kernel
theorem kX9_smallest_57 : am_dec cX9_smallest 57 [.aload_n 0] 58 = true := by decide +kernel
theorem kX9_smallest_61 : am_dec cX9_smallest 61 [.iload 5] 63 = true := by decide +kernel
theorem kX9_smallest_70 : am_dec cX9_smallest 70 [.aload_n 0] 71 = true := by decide +kernel
theorem kX9_smallest_74 : am_dec cX9_smallest 74 [.iload 4] 76 = true := by decide +kernel
theorem kX9_smallest_86 : am_dec cX9_smallest 86 [.iload 5, .istore 4] 90 = true := by decide +kernel
theorem kX9_smallest_90 : am_dec cX9_smallest 90 [.iinc 5 (-1)] 93 = true := by decide +kernel
theorem kX9_smallest_96 : am_dec cX9_smallest 96 [.iload 4] 98 = true := by decide +kernel
theorem eX9_smallest_4 : decode cX9_smallest 4 = .ok (.getfield 24, 3) := by decide +kernel
theorem eX9_smallest_7 : decode cX9_smallest 7 = .ok (.arraylength, 1) := by decide +kernel
theorem eX9_smallest_14 : decode cX9_smallest 14 = .ok (.ifCond .lt 82, 3) := by decide +kernel
theorem eX9_smallest_20 : decode cX9_smallest 20 = .ok (.if_icmp .eq 70, 3) := by decide +kernel
theorem eX9_smallest_24 : decode cX9_smallest 24 = .ok (.getfield 24, 3) := by decide +kernel
theorem eX9_smallest_29 : decode cX9_smallest 29 = .ok (.aaload, 1) := by decide +kernel
theorem eX9_smallest_30 : decode cX9_smallest 30 = .ok (.getfield 76, 3) := by decide +kernel
theorem eX9_smallest_33 : decode cX9_smallest 33 = .ok (.ifCond .eq 57, 3) := by decide +kernel
theorem eX9_smallest_37 : decode cX9_smallest 37 = .ok (.getfield 24, 3) := by decide +kernel
theorem eX9_smallest_42 : decode cX9_smallest 42 = .ok (.aaload, 1) := by decide +kernel
theorem eX9_smallest_45 : decode cX9_smallest 45 = .ok (.invokevirtual 84, 3) := by decide +kernel
theorem eX9_smallest_49 : decode cX9_smallest 49 = .ok (.if_icmp .ne 41, 3) := by decide +kernel
theorem eX9_smallest_54 : decode cX9_smallest 54 = .ok (.ifCond .lt 32, 3) := by decide +kernel
theorem eX9_smallest_58 : decode cX9_smallest 58 = .ok (.getfield 24, 3) := by decide +kernel
theorem eX9_smallest_63 : decode cX9_smallest 63 = .ok (.aaload, 1) := by decide +kernel
theorem eX9_smallest_64 : decode cX9_smallest 64 = .ok (.invokevirtual 87, 3) := by decide +kernel
theorem eX9_smallest_67 : decode cX9_smallest 67 = .ok (.invokestatic 90, 3) := by decide +kernel
theorem eX9_smallest_71 : decode cX9_smallest 71 = .ok (.getfield 24, 3) := by decide +kernel
theorem eX9_smallest_76 : decode cX9_smallest 76 = .ok (.aaload, 1) := by decide +kernel
theorem eX9_smallest_77 : decode cX9_smallest 77 = .ok (.invokevirtual 87, 3) := by decide +kernel
theorem eX9_smallest_80 : decode cX9_smallest 80 = .ok (.invokestatic 90, 3) := by decide +kernel
theorem eX9_smallest_83 : decode cX9_smallest 83 = .ok (.if_icmp .ge 7, 3) := by decide +kernel
theorem eX9_smallest_93 : decode cX9_smallest 93 = .ok (.goto (-81), 3) := by decide +kernel
theorem eX9_smallest_98 : decode cX9_smallest 98 = .ok (.ireturn, 1) := by decide +kernel
theorem kX9_claimer_0 : am_dec cX9_claimer 0 [.aload_n 0, .aload_n 0] 2 = true := by decide +kernel
theorem kX9_claimer_5 : am_dec cX9_claimer 5 [.iload_n 1] 6 = true := by decide +kernel
theorem kX9_claimer_7 : am_dec cX9_claimer 7 [.iconst 0] 8 = true := by decide +kernel
theorem kX9_claimer_9 : am_dec cX9_claimer 9 [.aload_n 0] 10 = true := by decide +kernel
theorem kX9_claimer_13 : am_dec cX9_claimer 13 [.iload_n 1] 14 = true := by decide +kernel
theorem kX9_claimer_15 : am_dec cX9_claimer 15 [.iconst 1] 16 = true := by decide +kernel
theorem kX9_claimer_17 : am_dec cX9_claimer 17 [.iconst (-1)] 18 = true := by decide +kernel
theorem eX9_claimer_2 : decode cX9_claimer 2 = .ok (.getfield 18, 3) := by decide +kernel
theorem eX9_claimer_6 : decode cX9_claimer 6 = .ok (.aaload, 1) := by decide +kernel
theorem eX9_claimer_8 : decode cX9_claimer 8 = .ok (.iaload, 1) := by decide +kernel
theorem eX9_claimer_10 : decode cX9_claimer 10 = .ok (.getfield 18, 3) := by decide +kernel
theorem eX9_claimer_14 : decode cX9_claimer 14 = .ok (.aaload, 1) := by decide +kernel
theorem eX9_claimer_16 : decode cX9_claimer 16 = .ok (.iaload, 1) := by decide +kernel
theorem eX9_claimer_18 : decode cX9_claimer 18 = .ok (.invokevirtual 93, 3) := by decide +kernel
theorem eX9_claimer_21 : decode cX9_claimer 21 = .ok (.ireturn, 1) := by decide +kernel
theorem kX9_claimed_0 : am_dec cX9_claimed 0 [.iconst 0, .istore_n 2, .iconst 0, .istore_n 3] 4 = true := by decide +kernel
theorem kX9_claimed_4 : am_dec cX9_claimed 4 [.iload_n 3, .aload_n 0] 6 = true := by decide +kernel
theorem kX9_claimed_13 : am_dec cX9_claimed 13 [.iload_n 1] 14 = true := by decide +kernel
theorem kX9_claimed_17 : am_dec cX9_claimed 17 [.aload_n 0, .iload_n 3] 19 = true := by decide +kernel
theorem kX9_claimed_28 : am_dec cX9_claimed 28 [.aload_n 0, .iload_n 3] 30 = true := by decide +kernel
theorem kX9_claimed_33 : am_dec cX9_claimed 33 [.iload_n 1] 34 = true := by decide +kernel
theorem kX9_claimed_37 : am_dec cX9_claimed 37 [.iinc 2 1] 40 = true := by decide +kernel
theorem kX9_claimed_40 : am_dec cX9_claimed 40 [.iinc 3 1] 43 = true := by decide +kernel
theorem kX9_claimed_46 : am_dec cX9_claimed 46 [.iload_n 2] 47 = true := by decide +kernel
theorem eX9_claimed_6 : decode cX9_claimed 6 = .ok (.getfield 18, 3) := by decide +kernel
theorem eX9_claimed_9 : decode cX9_claimed 9 = .ok (.arraylength, 1) := by decide +kernel
theorem eX9_claimed_10 : decode cX9_claimed 10 = .ok (.if_icmp .ge 36, 3) := by decide +kernel
theorem eX9_claimed_14 : decode cX9_claimed 14 = .ok (.ifCond .ge 14, 3) := by decide +kernel
theorem eX9_claimed_19 : decode cX9_claimed 19 = .ok (.invokevirtual 97, 3) := by decide +kernel
theorem eX9_claimed_22 : decode cX9_claimed 22 = .ok (.ifCond .lt 18, 3) := by decide +kernel
theorem eX9_claimed_25 : decode cX9_claimed 25 = .ok (.goto 12, 3) := by decide +kernel
theorem eX9_claimed_30 : decode cX9_claimed 30 = .ok (.invokevirtual 97, 3) := by decide +kernel
theorem eX9_claimed_34 : decode cX9_claimed 34 = .ok (.if_icmp .ne 6, 3) := by decide +kernel
theorem eX9_claimed_43 : decode cX9_claimed 43 = .ok (.goto (-39), 3) := by decide +kernel
theorem eX9_claimed_47 : decode cX9_claimed 47 = .ok (.ireturn, 1) := by decide +kernel
theorem kX9_score_0 : am_dec cX9_score 0 [.aload_n 0] 1 = true := by decide +kernel
theorem kX9_score_4 : am_dec cX9_score 4 [.iload_n 1] 5 = true := by decide +kernel
theorem kX9_score_6 : am_dec cX9_score 6 [.astore_n 2, .iconst 0, .istore_n 3, .iconst 0, .istore 4] 12 = true := by decide +kernel
theorem kX9_score_12 : am_dec cX9_score 12 [.iload 4, .aload_n 0] 15 = true := by decide +kernel
theorem kX9_score_22 : am_dec cX9_score 22 [.aload_n 0, .iload 4] 25 = true := by decide +kernel
theorem kX9_score_28 : am_dec cX9_score 28 [.iload_n 1] 29 = true := by decide +kernel
theorem kX9_score_32 : am_dec cX9_score 32 [.iload_n 3, .aload_n 0] 34 = true := by decide +kernel
theorem kX9_score_37 : am_dec cX9_score 37 [.iload 4] 39 = true := by decide +kernel
theorem kX9_score_40 : am_dec cX9_score 40 [.iconst 2] 41 = true := by decide +kernel
theorem kX9_score_42 : am_dec cX9_score 42 [.iadd, .istore_n 3] 44 = true := by decide +kernel
theorem kX9_score_44 : am_dec cX9_score 44 [.iinc 4 1] 47 = true := by decide +kernel
theorem kX9_score_50 : am_dec cX9_score 50 [.aload_n 2] 51 = true := by decide +kernel
theorem kX9_score_57 : am_dec cX9_score 57 [.istore 4, .aload_n 0] 60 = true := by decide +kernel
theorem kX9_score_66 : am_dec cX9_score 66 [.iload 4, .iload_n 3, .iadd] 70 = true := by decide +kernel
theorem kX9_score_74 : am_dec cX9_score 74 [.aload_n 0] 75 = true := by decide +kernel
theorem kX9_score_78 : am_dec cX9_score 78 [.iconst 5] 79 = true := by decide +kernel
theorem kX9_score_81 : am_dec cX9_score 81 [.dup, .iconst 0, .iload 4] 85 = true := by decide +kernel
theorem kX9_score_87 : am_dec cX9_score 87 [.dup, .iconst 1, .iload_n 3] 90 = true := by decide +kernel
theorem kX9_score_92 : am_dec cX9_score 92 [.dup, .iconst 2, .aload_n 2] 95 = true := by decide +kernel
theorem kX9_score_101 : am_dec cX9_score 101 [.dup, .iconst 3, .aload_n 2] 104 = true := by decide +kernel
theorem kX9_score_109 : am_dec cX9_score 109 [.dup, .iconst 4, .aload_n 2] 112 = true := by decide +kernel
theorem kX9_score_120 : am_dec cX9_score 120 [.lstore 5] 122 = true := by decide +kernel
theorem kX9_score_128 : am_dec cX9_score 128 [.lload 5] 130 = true := by decide +kernel
theorem eX9_score_1 : decode cX9_score 1 = .ok (.getfield 24, 3) := by decide +kernel
theorem eX9_score_5 : decode cX9_score 5 = .ok (.aaload, 1) := by decide +kernel
theorem eX9_score_15 : decode cX9_score 15 = .ok (.getfield 18, 3) := by decide +kernel
theorem eX9_score_18 : decode cX9_score 18 = .ok (.arraylength, 1) := by decide +kernel
theorem eX9_score_19 : decode cX9_score 19 = .ok (.if_icmp .ge 31, 3) := by decide +kernel
theorem eX9_score_25 : decode cX9_score 25 = .ok (.invokevirtual 97, 3) := by decide +kernel
theorem eX9_score_29 : decode cX9_score 29 = .ok (.if_icmp .ne 15, 3) := by decide +kernel
theorem eX9_score_34 : decode cX9_score 34 = .ok (.getfield 18, 3) := by decide +kernel
theorem eX9_score_39 : decode cX9_score 39 = .ok (.aaload, 1) := by decide +kernel
theorem eX9_score_41 : decode cX9_score 41 = .ok (.iaload, 1) := by decide +kernel
theorem eX9_score_47 : decode cX9_score 47 = .ok (.goto (-35), 3) := by decide +kernel
theorem eX9_score_51 : decode cX9_score 51 = .ok (.invokevirtual 87, 3) := by decide +kernel
theorem eX9_score_54 : decode cX9_score 54 = .ok (.invokestatic 90, 3) := by decide +kernel
theorem eX9_score_60 : decode cX9_score 60 = .ok (.getfield 29, 3) := by decide +kernel
theorem eX9_score_63 : decode cX9_score 63 = .ok (.ifnonnull 11, 3) := by decide +kernel
theorem eX9_score_70 : decode cX9_score 70 = .ok (.i2l, 1) := by decide +kernel
theorem eX9_score_71 : decode cX9_score 71 = .ok (.goto 49, 3) := by decide +kernel
theorem eX9_score_75 : decode cX9_score 75 = .ok (.getfield 29, 3) := by decide +kernel
theorem eX9_score_79 : decode cX9_score 79 = .ok (.newarray .long, 2) := by decide +kernel
theorem eX9_score_85 : decode cX9_score 85 = .ok (.i2l, 1) := by decide +kernel
theorem eX9_score_86 : decode cX9_score 86 = .ok (.lastore, 1) := by decide +kernel
theorem eX9_score_90 : decode cX9_score 90 = .ok (.i2l, 1) := by decide +kernel
theorem eX9_score_91 : decode cX9_score 91 = .ok (.lastore, 1) := by decide +kernel
theorem eX9_score_95 : decode cX9_score 95 = .ok (.getfield 37, 3) := by decide +kernel
theorem eX9_score_98 : decode cX9_score 98 = .ok (.arraylength, 1) := by decide +kernel
theorem eX9_score_99 : decode cX9_score 99 = .ok (.i2l, 1) := by decide +kernel
theorem eX9_score_100 : decode cX9_score 100 = .ok (.lastore, 1) := by decide +kernel
theorem eX9_score_104 : decode cX9_score 104 = .ok (.invokevirtual 100, 3) := by decide +kernel
theorem eX9_score_107 : decode cX9_score 107 = .ok (.i2l, 1) := by decide +kernel
theorem eX9_score_108 : decode cX9_score 108 = .ok (.lastore, 1) := by decide +kernel
theorem eX9_score_112 : decode cX9_score 112 = .ok (.invokevirtual 103, 3) := by decide +kernel
theorem eX9_score_115 : decode cX9_score 115 = .ok (.i2l, 1) := by decide +kernel
theorem eX9_score_116 : decode cX9_score 116 = .ok (.lastore, 1) := by decide +kernel
theorem eX9_score_117 : decode cX9_score 117 = .ok (.invokevirtual 106, 3) := by decide +kernel
theorem eX9_score_122 : decode cX9_score 122 = .ok (.ldc2_w 112, 3) := by decide +kernel
theorem eX9_score_125 : decode cX9_score 125 = .ok (.ldc2_w 114, 3) := by decide +kernel
theorem eX9_score_130 : decode cX9_score 130 = .ok (.invokestatic 116, 3) := by decide +kernel
theorem eX9_score_133 : decode cX9_score 133 = .ok (.invokestatic 119, 3) := by decide +kernel
theorem eX9_score_136 : decode cX9_score 136 = .ok (.l2i, 1) := by decide +kernel
theorem eX9_score_137 : decode cX9_score 137 = .ok (.ireturn, 1) := by decide +kernel
theorem kX9_points_0 : am_dec cX9_points 0 [.iconst 0, .istore_n 2, .iconst 0, .istore_n 3] 4 = true := by decide +kernel
theorem kX9_points_4 : am_dec cX9_points 4 [.iload_n 3, .aload_n 0] 6 = true := by decide +kernel
theorem kX9_points_13 : am_dec cX9_points 13 [.aload_n 0] 14 = true := by decide +kernel
theorem kX9_points_17 : am_dec cX9_points 17 [.iload_n 3] 18 = true := by decide +kernel
theorem kX9_points_25 : am_dec cX9_points 25 [.aload_n 0] 26 = true := by decide +kernel
theorem kX9_points_29 : am_dec cX9_points 29 [.iload_n 3] 30 = true := by decide +kernel
theorem kX9_points_34 : am_dec cX9_points 34 [.iload_n 1] 35 = true := by decide +kernel
theorem kX9_points_38 : am_dec cX9_points 38 [.iload_n 2, .aload_n 0, .iload_n 3] 41 = true := by decide +kernel
theorem kX9_points_44 : am_dec cX9_points 44 [.iadd, .istore_n 2] 46 = true := by decide +kernel
theorem kX9_points_46 : am_dec cX9_points 46 [.iinc 3 1] 49 = true := by decide +kernel
theorem kX9_points_52 : am_dec cX9_points 52 [.iload_n 2] 53 = true := by decide +kernel
theorem eX9_points_6 : decode cX9_points 6 = .ok (.getfield 24, 3) := by decide +kernel
theorem eX9_points_9 : decode cX9_points 9 = .ok (.arraylength, 1) := by decide +kernel
theorem eX9_points_10 : decode cX9_points 10 = .ok (.if_icmp .ge 42, 3) := by decide +kernel
theorem eX9_points_14 : decode cX9_points 14 = .ok (.getfield 24, 3) := by decide +kernel
theorem eX9_points_18 : decode cX9_points 18 = .ok (.aaload, 1) := by decide +kernel
theorem eX9_points_19 : decode cX9_points 19 = .ok (.getfield 76, 3) := by decide +kernel
theorem eX9_points_22 : decode cX9_points 22 = .ok (.ifCond .eq 24, 3) := by decide +kernel
theorem eX9_points_26 : decode cX9_points 26 = .ok (.getfield 24, 3) := by decide +kernel
theorem eX9_points_30 : decode cX9_points 30 = .ok (.aaload, 1) := by decide +kernel
theorem eX9_points_31 : decode cX9_points 31 = .ok (.getfield 121, 3) := by decide +kernel
theorem eX9_points_35 : decode cX9_points 35 = .ok (.if_icmp .ne 11, 3) := by decide +kernel
theorem eX9_points_41 : decode cX9_points 41 = .ok (.invokevirtual 124, 3) := by decide +kernel
theorem eX9_points_49 : decode cX9_points 49 = .ok (.goto (-45), 3) := by decide +kernel
theorem eX9_points_53 : decode cX9_points 53 = .ok (.ireturn, 1) := by decide +kernel
theorem kX9_add_0 : am_dec cX9_add 0 [.aload_n 0] 1 = true := by decide +kernel
theorem kX9_add_5 : am_dec cX9_add 5 [.iconst 1, .iadd] 7 = true := by decide +kernel
theorem kX9_add_10 : am_dec cX9_add 10 [.astore 4, .iconst 0, .istore 5] 15 = true := by decide +kernel
theorem kX9_add_15 : am_dec cX9_add 15 [.iload 5, .aload_n 0] 18 = true := by decide +kernel
theorem kX9_add_25 : am_dec cX9_add 25 [.aload 4, .iload 5, .aload_n 0] 30 = true := by decide +kernel
theorem kX9_add_33 : am_dec cX9_add 33 [.iload 5] 35 = true := by decide +kernel
theorem kX9_add_37 : am_dec cX9_add 37 [.iinc 5 1] 40 = true := by decide +kernel
theorem kX9_add_46 : am_dec cX9_add 46 [.dup] 47 = true := by decide +kernel
theorem kX9_add_50 : am_dec cX9_add 50 [.astore 5, .aload 5, .iload_n 1] 55 = true := by decide +kernel
theorem kX9_add_58 : am_dec cX9_add 58 [.aload 5, .iconst 1] 61 = true := by decide +kernel
theorem kX9_add_63 : am_dec cX9_add 63 [.dup, .iconst 0, .bipush 100, .iload_n 2, .imul, .iload_n 3, .iadd] 71 = true := by decide +kernel
theorem kX9_add_75 : am_dec cX9_add 75 [.aload 4, .aload_n 0] 78 = true := by decide +kernel
theorem kX9_add_82 : am_dec cX9_add 82 [.aload 5] 84 = true := by decide +kernel
theorem kX9_add_85 : am_dec cX9_add 85 [.aload_n 0, .aload 4] 88 = true := by decide +kernel
theorem eX9_add_1 : decode cX9_add 1 = .ok (.getfield 24, 3) := by decide +kernel
theorem eX9_add_4 : decode cX9_add 4 = .ok (.arraylength, 1) := by decide +kernel
theorem eX9_add_7 : decode cX9_add 7 = .ok (.anewarray 22, 3) := by decide +kernel
theorem eX9_add_18 : decode cX9_add 18 = .ok (.getfield 24, 3) := by decide +kernel
theorem eX9_add_21 : decode cX9_add 21 = .ok (.arraylength, 1) := by decide +kernel
theorem eX9_add_22 : decode cX9_add 22 = .ok (.if_icmp .ge 21, 3) := by decide +kernel
theorem eX9_add_30 : decode cX9_add 30 = .ok (.getfield 24, 3) := by decide +kernel
theorem eX9_add_35 : decode cX9_add 35 = .ok (.aaload, 1) := by decide +kernel
theorem eX9_add_36 : decode cX9_add 36 = .ok (.aastore, 1) := by decide +kernel
theorem eX9_add_40 : decode cX9_add 40 = .ok (.goto (-25), 3) := by decide +kernel
theorem eX9_add_43 : decode cX9_add 43 = .ok (.new 22, 3) := by decide +kernel
theorem eX9_add_47 : decode cX9_add 47 = .ok (.invokespecial 127, 3) := by decide +kernel
theorem eX9_add_55 : decode cX9_add 55 = .ok (.putfield 121, 3) := by decide +kernel
theorem eX9_add_61 : decode cX9_add 61 = .ok (.newarray .int, 2) := by decide +kernel
theorem eX9_add_71 : decode cX9_add 71 = .ok (.iastore, 1) := by decide +kernel
theorem eX9_add_72 : decode cX9_add 72 = .ok (.putfield 37, 3) := by decide +kernel
theorem eX9_add_78 : decode cX9_add 78 = .ok (.getfield 24, 3) := by decide +kernel
theorem eX9_add_81 : decode cX9_add 81 = .ok (.arraylength, 1) := by decide +kernel
theorem eX9_add_84 : decode cX9_add 84 = .ok (.aastore, 1) := by decide +kernel
theorem eX9_add_88 : decode cX9_add 88 = .ok (.putfield 24, 3) := by decide +kernel
theorem eX9_add_91 : decode cX9_add 91 = .ok (.return_, 1) := by decide +kernel
theorem kX9_remove_0 : am_dec cX9_remove 0 [.aload_n 0] 1 = true := by decide +kernel
theorem kX9_remove_5 : am_dec cX9_remove 5 [.iconst 1, .isub] 7 = true := by decide +kernel
theorem kX9_remove_10 : am_dec cX9_remove 10 [.astore_n 2, .iconst 0, .istore_n 3] 13 = true := by decide +kernel
theorem kX9_remove_13 : am_dec cX9_remove 13 [.iload_n 3, .aload_n 2] 15 = true := by decide +kernel
theorem kX9_remove_19 : am_dec cX9_remove 19 [.aload_n 2, .iload_n 3, .aload_n 0] 22 = true := by decide +kernel
theorem kX9_remove_25 : am_dec cX9_remove 25 [.iload_n 3, .iload_n 1] 27 = true := by decide +kernel
theorem kX9_remove_30 : am_dec cX9_remove 30 [.iload_n 3] 31 = true := by decide +kernel
theorem kX9_remove_34 : am_dec cX9_remove 34 [.iload_n 3, .iconst 1, .iadd] 37 = true := by decide +kernel
theorem kX9_remove_39 : am_dec cX9_remove 39 [.iinc 3 1] 42 = true := by decide +kernel
theorem kX9_remove_45 : am_dec cX9_remove 45 [.aload_n 0, .aload_n 2] 47 = true := by decide +kernel
theorem eX9_remove_1 : decode cX9_remove 1 = .ok (.getfield 24, 3) := by decide +kernel
theorem eX9_remove_4 : decode cX9_remove 4 = .ok (.arraylength, 1) := by decide +kernel
theorem eX9_remove_7 : decode cX9_remove 7 = .ok (.anewarray 22, 3) := by decide +kernel
theorem eX9_remove_15 : decode cX9_remove 15 = .ok (.arraylength, 1) := by decide +kernel
theorem eX9_remove_16 : decode cX9_remove 16 = .ok (.if_icmp .ge 29, 3) := by decide +kernel
theorem eX9_remove_22 : decode cX9_remove 22 = .ok (.getfield 24, 3) := by decide +kernel
theorem eX9_remove_27 : decode cX9_remove 27 = .ok (.if_icmp .ge 7, 3) := by decide +kernel
theorem eX9_remove_31 : decode cX9_remove 31 = .ok (.goto 6, 3) := by decide +kernel
theorem eX9_remove_37 : decode cX9_remove 37 = .ok (.aaload, 1) := by decide +kernel
theorem eX9_remove_38 : decode cX9_remove 38 = .ok (.aastore, 1) := by decide +kernel
theorem eX9_remove_42 : decode cX9_remove 42 = .ok (.goto (-29), 3) := by decide +kernel
theorem eX9_remove_47 : decode cX9_remove 47 = .ok (.putfield 24, 3) := by decide +kernel
theorem eX9_remove_50 : decode cX9_remove 50 = .ok (.return_, 1) := by decide +kernel
theorem kX9_sum_0 : am_dec cX9_sum 0 [.lconst 0, .lstore_n 1, .aload_n 0] 3 = true := by decide +kernel
theorem kX9_sum_6 : am_dec cX9_sum 6 [.astore_n 3, .aload_n 3] 8 = true := by decide +kernel
theorem kX9_sum_9 : am_dec cX9_sum 9 [.istore 4, .iconst 0, .istore 5] 14 = true := by decide +kernel
theorem kX9_sum_14 : am_dec cX9_sum 14 [.iload 5, .iload 4] 18 = true := by decide +kernel
theorem kX9_sum_21 : am_dec cX9_sum 21 [.aload_n 3, .iload 5] 24 = true := by decide +kernel
theorem kX9_sum_25 : am_dec cX9_sum 25 [.astore 6] 27 = true := by decide +kernel
theorem kX9_sum_33 : am_dec cX9_sum 33 [.lload_n 1, .lmul, .aload 6] 37 = true := by decide +kernel
theorem kX9_sum_41 : am_dec cX9_sum 41 [.ladd, .lmul, .aload 6] 45 = true := by decide +kernel
theorem kX9_sum_51 : am_dec cX9_sum 51 [.iconst 1] 52 = true := by decide +kernel
theorem kX9_sum_55 : am_dec cX9_sum 55 [.iconst 0] 56 = true := by decide +kernel
theorem kX9_sum_57 : am_dec cX9_sum 57 [.ladd, .lstore_n 1, .aload 6] 61 = true := by decide +kernel
theorem kX9_sum_64 : am_dec cX9_sum 64 [.astore 7, .aload 7] 68 = true := by decide +kernel
theorem kX9_sum_69 : am_dec cX9_sum 69 [.istore 8, .iconst 0, .istore 9] 74 = true := by decide +kernel
theorem kX9_sum_74 : am_dec cX9_sum 74 [.iload 9, .iload 8] 78 = true := by decide +kernel
theorem kX9_sum_81 : am_dec cX9_sum 81 [.aload 7, .iload 9] 85 = true := by decide +kernel
theorem kX9_sum_86 : am_dec cX9_sum 86 [.istore 10] 88 = true := by decide +kernel
theorem kX9_sum_91 : am_dec cX9_sum 91 [.lload_n 1, .lmul, .iload 10] 95 = true := by decide +kernel
theorem kX9_sum_96 : am_dec cX9_sum 96 [.ladd, .lstore_n 1, .iinc 9 1] 101 = true := by decide +kernel
theorem kX9_sum_104 : am_dec cX9_sum 104 [.iinc 5 1] 107 = true := by decide +kernel
theorem kX9_sum_110 : am_dec cX9_sum 110 [.iconst 0, .istore_n 3] 112 = true := by decide +kernel
theorem kX9_sum_112 : am_dec cX9_sum 112 [.iload_n 3, .aload_n 0] 114 = true := by decide +kernel
theorem kX9_sum_124 : am_dec cX9_sum 124 [.lload_n 1, .lmul, .aload_n 0, .iload_n 3] 128 = true := by decide +kernel
theorem kX9_sum_132 : am_dec cX9_sum 132 [.ladd, .lstore_n 1, .iinc 3 1] 137 = true := by decide +kernel
theorem kX9_sum_140 : am_dec cX9_sum 140 [.iconst 0, .istore_n 3] 142 = true := by decide +kernel
theorem kX9_sum_142 : am_dec cX9_sum 142 [.iload_n 3, .iconst 4] 144 = true := by decide +kernel
theorem kX9_sum_150 : am_dec cX9_sum 150 [.lload_n 1, .lmul, .aload_n 0, .iload_n 3] 154 = true := by decide +kernel
theorem kX9_sum_158 : am_dec cX9_sum 158 [.ladd, .lstore_n 1, .iinc 3 1] 163 = true := by decide +kernel
theorem kX9_sum_166 : am_dec cX9_sum 166 [.lload_n 1] 167 = true := by decide +kernel
theorem eX9_sum_3 : decode cX9_sum 3 = .ok (.getfield 24, 3) := by decide +kernel
theorem eX9_sum_8 : decode cX9_sum 8 = .ok (.arraylength, 1) := by decide +kernel
theorem eX9_sum_18 : decode cX9_sum 18 = .ok (.if_icmp .ge 92, 3) := by decide +kernel
theorem eX9_sum_24 : decode cX9_sum 24 = .ok (.aaload, 1) := by decide +kernel
theorem eX9_sum_27 : decode cX9_sum 27 = .ok (.ldc2_w 128, 3) := by decide +kernel
theorem eX9_sum_30 : decode cX9_sum 30 = .ok (.ldc2_w 128, 3) := by decide +kernel
theorem eX9_sum_37 : decode cX9_sum 37 = .ok (.getfield 121, 3) := by decide +kernel
theorem eX9_sum_40 : decode cX9_sum 40 = .ok (.i2l, 1) := by decide +kernel
theorem eX9_sum_45 : decode cX9_sum 45 = .ok (.getfield 76, 3) := by decide +kernel
theorem eX9_sum_48 : decode cX9_sum 48 = .ok (.ifCond .eq 7, 3) := by decide +kernel
theorem eX9_sum_52 : decode cX9_sum 52 = .ok (.goto 4, 3) := by decide +kernel
theorem eX9_sum_56 : decode cX9_sum 56 = .ok (.i2l, 1) := by decide +kernel
theorem eX9_sum_61 : decode cX9_sum 61 = .ok (.getfield 37, 3) := by decide +kernel
theorem eX9_sum_68 : decode cX9_sum 68 = .ok (.arraylength, 1) := by decide +kernel
theorem eX9_sum_78 : decode cX9_sum 78 = .ok (.if_icmp .ge 26, 3) := by decide +kernel
theorem eX9_sum_85 : decode cX9_sum 85 = .ok (.iaload, 1) := by decide +kernel
theorem eX9_sum_88 : decode cX9_sum 88 = .ok (.ldc2_w 128, 3) := by decide +kernel
theorem eX9_sum_95 : decode cX9_sum 95 = .ok (.i2l, 1) := by decide +kernel
theorem eX9_sum_101 : decode cX9_sum 101 = .ok (.goto (-27), 3) := by decide +kernel
theorem eX9_sum_107 : decode cX9_sum 107 = .ok (.goto (-93), 3) := by decide +kernel
theorem eX9_sum_114 : decode cX9_sum 114 = .ok (.getfield 18, 3) := by decide +kernel
theorem eX9_sum_117 : decode cX9_sum 117 = .ok (.arraylength, 1) := by decide +kernel
theorem eX9_sum_118 : decode cX9_sum 118 = .ok (.if_icmp .ge 22, 3) := by decide +kernel
theorem eX9_sum_121 : decode cX9_sum 121 = .ok (.ldc2_w 128, 3) := by decide +kernel
theorem eX9_sum_128 : decode cX9_sum 128 = .ok (.invokevirtual 97, 3) := by decide +kernel
theorem eX9_sum_131 : decode cX9_sum 131 = .ok (.i2l, 1) := by decide +kernel
theorem eX9_sum_137 : decode cX9_sum 137 = .ok (.goto (-25), 3) := by decide +kernel
theorem eX9_sum_144 : decode cX9_sum 144 = .ok (.if_icmp .ge 22, 3) := by decide +kernel
theorem eX9_sum_147 : decode cX9_sum 147 = .ok (.ldc2_w 128, 3) := by decide +kernel
theorem eX9_sum_154 : decode cX9_sum 154 = .ok (.invokevirtual 130, 3) := by decide +kernel
theorem eX9_sum_157 : decode cX9_sum 157 = .ok (.i2l, 1) := by decide +kernel
theorem eX9_sum_163 : decode cX9_sum 163 = .ok (.goto (-21), 3) := by decide +kernel
theorem eX9_sum_167 : decode cX9_sum 167 = .ok (.lreturn, 1) := by decide +kernel
theorem kX10_init_0 : am_dec cX10_init 0 [.aload_n 0] 1 = true := by decide +kernel
theorem eX10_init_1 : decode cX10_init 1 = .ok (.invokespecial 1, 3) := by decide +kernel
theorem eX10_init_4 : decode cX10_init 4 = .ok (.return_, 1) := by decide +kernel
theorem kX10_random_3 : am_dec cX10_random 3 [.dup] 4 = true := by decide +kernel
theorem kX10_random_7 : am_dec cX10_random 7 [.astore_n 2, .aload_n 2, .iload_n 1] 10 = true := by decide +kernel
theorem kX10_random_13 : am_dec cX10_random 13 [.aload_n 0, .iconst 2] 15 = true := by decide +kernel
theorem kX10_random_21 : am_dec cX10_random 21 [.aload_n 0, .bipush 6] 24 = true := by decide +kernel
theorem kX10_random_30 : am_dec cX10_random 30 [.aload_n 2, .aload_n 2] 32 = true := by decide +kernel
theorem kX10_random_38 : am_dec cX10_random 38 [.aload_n 0, .aload_n 0, .bipush 8] 42 = true := by decide +kernel
theorem kX10_random_48 : am_dec cX10_random 48 [.sipush 10000] 51 = true := by decide +kernel
theorem kX10_random_54 : am_dec cX10_random 54 [.bipush 12] 56 = true := by decide +kernel
theorem kX10_random_62 : am_dec cX10_random 62 [.aload_n 0, .iconst 5] 64 = true := by decide +kernel
theorem kX10_random_70 : am_dec cX10_random 70 [.aload_n 2] 71 = true := by decide +kernel
theorem kX10_random_74 : am_dec cX10_random 74 [.iconst 1] 75 = true := by decide +kernel
theorem kX10_random_78 : am_dec cX10_random 78 [.aload_n 2, .aload_n 0, .iload_n 1, .iconst 1, .isub] 83 = true := by decide +kernel
theorem kX10_random_89 : am_dec cX10_random 89 [.aload_n 2, .aload_n 0, .iload_n 1, .iconst 1, .isub] 94 = true := by decide +kernel
theorem kX10_random_100 : am_dec cX10_random 100 [.aload_n 2] 101 = true := by decide +kernel
theorem eX10_random_0 : decode cX10_random 0 = .ok (.new 7, 3) := by decide +kernel
theorem eX10_random_4 : decode cX10_random 4 = .ok (.invokespecial 9, 3) := by decide +kernel
theorem eX10_random_10 : decode cX10_random 10 = .ok (.ifCond .ne 11, 3) := by decide +kernel
theorem eX10_random_15 : decode cX10_random 15 = .ok (.invokevirtual 10, 3) := by decide +kernel
theorem eX10_random_18 : decode cX10_random 18 = .ok (.goto 9, 3) := by decide +kernel
theorem eX10_random_24 : decode cX10_random 24 = .ok (.invokevirtual 10, 3) := by decide +kernel
theorem eX10_random_27 : decode cX10_random 27 = .ok (.putfield 16, 3) := by decide +kernel
theorem eX10_random_32 : decode cX10_random 32 = .ok (.getfield 16, 3) := by decide +kernel
theorem eX10_random_35 : decode cX10_random 35 = .ok (.ifCond .ne 27, 3) := by decide +kernel
theorem eX10_random_42 : decode cX10_random 42 = .ok (.invokevirtual 10, 3) := by decide +kernel
theorem eX10_random_45 : decode cX10_random 45 = .ok (.ifCond .ne 9, 3) := by decide +kernel
theorem eX10_random_51 : decode cX10_random 51 = .ok (.goto 5, 3) := by decide +kernel
theorem eX10_random_56 : decode cX10_random 56 = .ok (.invokevirtual 10, 3) := by decide +kernel
theorem eX10_random_59 : decode cX10_random 59 = .ok (.goto 8, 3) := by decide +kernel
theorem eX10_random_64 : decode cX10_random 64 = .ok (.invokevirtual 10, 3) := by decide +kernel
theorem eX10_random_67 : decode cX10_random 67 = .ok (.putfield 20, 3) := by decide +kernel
theorem eX10_random_71 : decode cX10_random 71 = .ok (.getfield 16, 3) := by decide +kernel
theorem eX10_random_75 : decode cX10_random 75 = .ok (.if_icmp .le 25, 3) := by decide +kernel
theorem eX10_random_83 : decode cX10_random 83 = .ok (.invokestatic 23, 3) := by decide +kernel
theorem eX10_random_86 : decode cX10_random 86 = .ok (.putfield 27, 3) := by decide +kernel
theorem eX10_random_94 : decode cX10_random 94 = .ok (.invokestatic 23, 3) := by decide +kernel
theorem eX10_random_97 : decode cX10_random 97 = .ok (.putfield 31, 3) := by decide +kernel
theorem eX10_random_101 : decode cX10_random 101 = .ok (.areturn, 1) := by decide +kernel
theorem kX10_text_0 : am_dec cX10_text 0 [.aload_n 0] 1 = true := by decide +kernel
theorem kX10_text_10 : am_dec cX10_text 10 [.dup] 11 = true := by decide +kernel
theorem kX10_text_19 : am_dec cX10_text 19 [.aload_n 0] 20 = true := by decide +kernel
theorem kX10_text_30 : am_dec cX10_text 30 [.aload_n 0] 31 = true := by decide +kernel
theorem kX10_text_34 : am_dec cX10_text 34 [.iconst 1] 35 = true := by decide +kernel
theorem kX10_text_41 : am_dec cX10_text 41 [.aload_n 0] 42 = true := by decide +kernel
theorem kX10_text_47 : am_dec cX10_text 47 [.aload_n 0] 48 = true := by decide +kernel
theorem kX10_text_51 : am_dec cX10_text 51 [.iconst 4] 52 = true := by decide +kernel
theorem kX10_text_55 : am_dec cX10_text 55 [.iconst 1] 56 = true := by decide +kernel
theorem kX10_text_59 : am_dec cX10_text 59 [.iconst 2] 60 = true := by decide +kernel
theorem kX10_text_60 : am_dec cX10_text 60 [.istore_n 2] 61 = true := by decide +kernel
theorem kX10_text_64 : am_dec cX10_text 64 [.dup] 65 = true := by decide +kernel
theorem kX10_text_68 : am_dec cX10_text 68 [.aload_n 0] 69 = true := by decide +kernel
theorem kX10_text_72 : am_dec cX10_text 72 [.iload_n 2] 73 = true := by decide +kernel
theorem kX10_text_79 : am_dec cX10_text 79 [.aload_n 0] 80 = true := by decide +kernel
theorem kX10_text_83 : am_dec cX10_text 83 [.iconst 2] 84 = true := by decide +kernel
theorem kX10_text_92 : am_dec cX10_text 92 [.aload_n 0] 93 = true := by decide +kernel
theorem kX10_text_96 : am_dec cX10_text 96 [.iconst 3] 97 = true := by decide +kernel
theorem kX10_text_105 : am_dec cX10_text 105 [.aload_n 0] 106 = true := by decide +kernel
theorem kX10_text_109 : am_dec cX10_text 109 [.iconst 4] 110 = true := by decide +kernel
theorem kX10_text_123 : am_dec cX10_text 123 [.aload_n 0] 124 = true := by decide +kernel
theorem kX10_text_127 : am_dec cX10_text 127 [.iload_n 2, .iconst 1, .iadd] 130 = true := by decide +kernel
theorem kX10_text_139 : am_dec cX10_text 139 [.astore_n 3, .iload_n 2, .iload_n 1] 142 = true := by decide +kernel
theorem kX10_text_148 : am_dec cX10_text 148 [.dup] 149 = true := by decide +kernel
theorem kX10_text_157 : am_dec cX10_text 157 [.aload_n 3] 158 = true := by decide +kernel
theorem kX10_text_172 : am_dec cX10_text 172 [.aload_n 3] 173 = true := by decide +kernel
theorem eX10_text_1 : decode cX10_text 1 = .ok (.getfield 16, 3) := by decide +kernel
theorem eX10_text_4 : decode cX10_text 4 = .ok (.ifCond .ne 26, 3) := by decide +kernel
theorem eX10_text_7 : decode cX10_text 7 = .ok (.new 34, 3) := by decide +kernel
theorem eX10_text_11 : decode cX10_text 11 = .ok (.invokespecial 36, 3) := by decide +kernel
theorem eX10_text_14 : decode cX10_text 14 = .ok (.ldc 37, 2) := by decide +kernel
theorem eX10_text_16 : decode cX10_text 16 = .ok (.invokevirtual 39, 3) := by decide +kernel
theorem eX10_text_20 : decode cX10_text 20 = .ok (.getfield 20, 3) := by decide +kernel
theorem eX10_text_23 : decode cX10_text 23 = .ok (.invokevirtual 43, 3) := by decide +kernel
theorem eX10_text_26 : decode cX10_text 26 = .ok (.invokevirtual 46, 3) := by decide +kernel
theorem eX10_text_29 : decode cX10_text 29 = .ok (.areturn, 1) := by decide +kernel
theorem eX10_text_31 : decode cX10_text 31 = .ok (.getfield 16, 3) := by decide +kernel
theorem eX10_text_35 : decode cX10_text 35 = .ok (.if_icmp .ne 12, 3) := by decide +kernel
theorem eX10_text_38 : decode cX10_text 38 = .ok (.getstatic 50, 3) := by decide +kernel
theorem eX10_text_42 : decode cX10_text 42 = .ok (.getfield 20, 3) := by decide +kernel
theorem eX10_text_45 : decode cX10_text 45 = .ok (.aaload, 1) := by decide +kernel
theorem eX10_text_46 : decode cX10_text 46 = .ok (.areturn, 1) := by decide +kernel
theorem eX10_text_48 : decode cX10_text 48 = .ok (.getfield 16, 3) := by decide +kernel
theorem eX10_text_52 : decode cX10_text 52 = .ok (.if_icmp .ge 7, 3) := by decide +kernel
theorem eX10_text_56 : decode cX10_text 56 = .ok (.goto 4, 3) := by decide +kernel
theorem eX10_text_61 : decode cX10_text 61 = .ok (.new 34, 3) := by decide +kernel
theorem eX10_text_65 : decode cX10_text 65 = .ok (.invokespecial 36, 3) := by decide +kernel
theorem eX10_text_69 : decode cX10_text 69 = .ok (.getfield 27, 3) := by decide +kernel
theorem eX10_text_73 : decode cX10_text 73 = .ok (.invokevirtual 56, 3) := by decide +kernel
theorem eX10_text_76 : decode cX10_text 76 = .ok (.invokevirtual 39, 3) := by decide +kernel
theorem eX10_text_80 : decode cX10_text 80 = .ok (.getfield 16, 3) := by decide +kernel
theorem eX10_text_84 : decode cX10_text 84 = .ok (.if_icmp .ne 8, 3) := by decide +kernel
theorem eX10_text_87 : decode cX10_text 87 = .ok (.ldc 60, 2) := by decide +kernel
theorem eX10_text_89 : decode cX10_text 89 = .ok (.goto 31, 3) := by decide +kernel
theorem eX10_text_93 : decode cX10_text 93 = .ok (.getfield 16, 3) := by decide +kernel
theorem eX10_text_97 : decode cX10_text 97 = .ok (.if_icmp .ne 8, 3) := by decide +kernel
theorem eX10_text_100 : decode cX10_text 100 = .ok (.ldc 62, 2) := by decide +kernel
theorem eX10_text_102 : decode cX10_text 102 = .ok (.goto 18, 3) := by decide +kernel
theorem eX10_text_106 : decode cX10_text 106 = .ok (.getfield 16, 3) := by decide +kernel
theorem eX10_text_110 : decode cX10_text 110 = .ok (.if_icmp .ne 8, 3) := by decide +kernel
theorem eX10_text_113 : decode cX10_text 113 = .ok (.ldc 64, 2) := by decide +kernel
theorem eX10_text_115 : decode cX10_text 115 = .ok (.goto 5, 3) := by decide +kernel
theorem eX10_text_118 : decode cX10_text 118 = .ok (.ldc 66, 2) := by decide +kernel
theorem eX10_text_120 : decode cX10_text 120 = .ok (.invokevirtual 39, 3) := by decide +kernel
theorem eX10_text_124 : decode cX10_text 124 = .ok (.getfield 31, 3) := by decide +kernel
theorem eX10_text_130 : decode cX10_text 130 = .ok (.invokevirtual 56, 3) := by decide +kernel
theorem eX10_text_133 : decode cX10_text 133 = .ok (.invokevirtual 39, 3) := by decide +kernel
theorem eX10_text_136 : decode cX10_text 136 = .ok (.invokevirtual 46, 3) := by decide +kernel
theorem eX10_text_142 : decode cX10_text 142 = .ok (.if_icmp .ge 30, 3) := by decide +kernel
theorem eX10_text_145 : decode cX10_text 145 = .ok (.new 34, 3) := by decide +kernel
theorem eX10_text_149 : decode cX10_text 149 = .ok (.invokespecial 36, 3) := by decide +kernel
theorem eX10_text_152 : decode cX10_text 152 = .ok (.ldc 68, 2) := by decide +kernel
theorem eX10_text_154 : decode cX10_text 154 = .ok (.invokevirtual 39, 3) := by decide +kernel
theorem eX10_text_158 : decode cX10_text 158 = .ok (.invokevirtual 39, 3) := by decide +kernel
theorem eX10_text_161 : decode cX10_text 161 = .ok (.ldc 70, 2) := by decide +kernel
theorem eX10_text_163 : decode cX10_text 163 = .ok (.invokevirtual 39, 3) := by decide +kernel
theorem eX10_text_166 : decode cX10_text 166 = .ok (.invokevirtual 46, 3) := by decide +kernel
theorem eX10_text_169 : decode cX10_text 169 = .ok (.goto 4, 3) := by decide +kernel
theorem eX10_text_173 : decode cX10_text 173 = .ok (.areturn, 1) := by decide +kernel
theorem kX10_value_0 : am_dec cX10_value 0 [.aload_n 0] 1 = true := by decide +kernel
theorem kX10_value_4 : am_dec cX10_value 4 [.iconst 2] 5 = true := by decide +kernel
theorem kX10_value_8 : am_dec cX10_value 8 [.aload_n 0] 9 = true := by decide +kernel
theorem kX10_value_15 : am_dec cX10_value 15 [.aload_n 0] 16 = true := by decide +kernel
theorem kX10_value_23 : am_dec cX10_value 23 [.aload_n 1, .aload_n 0] 25 = true := by decide +kernel
theorem kX10_value_30 : am_dec cX10_value 30 [.aload_n 0] 31 = true := by decide +kernel
theorem kX10_value_34 : am_dec cX10_value 34 [.aload_n 1] 35 = true := by decide +kernel
theorem kX10_value_38 : am_dec cX10_value 38 [.lstore_n 2, .aload_n 0] 40 = true := by decide +kernel
theorem kX10_value_43 : am_dec cX10_value 43 [.aload_n 1] 44 = true := by decide +kernel
theorem kX10_value_47 : am_dec cX10_value 47 [.lstore 4, .aload_n 0] 50 = true := by decide +kernel
theorem kX10_value_53 : am_dec cX10_value 53 [.iconst 2] 54 = true := by decide +kernel
theorem kX10_value_57 : am_dec cX10_value 57 [.lload_n 2, .lload 4, .ladd] 61 = true := by decide +kernel
theorem kX10_value_64 : am_dec cX10_value 64 [.aload_n 0] 65 = true := by decide +kernel
theorem kX10_value_68 : am_dec cX10_value 68 [.iconst 3] 69 = true := by decide +kernel
theorem kX10_value_72 : am_dec cX10_value 72 [.lload_n 2, .lload 4, .lsub] 76 = true := by decide +kernel
theorem kX10_value_79 : am_dec cX10_value 79 [.aload_n 0] 80 = true := by decide +kernel
theorem kX10_value_83 : am_dec cX10_value 83 [.iconst 4] 84 = true := by decide +kernel
theorem kX10_value_87 : am_dec cX10_value 87 [.lload_n 2, .lload 4, .lmul] 91 = true := by decide +kernel
theorem kX10_value_94 : am_dec cX10_value 94 [.lload 4, .lconst 0] 97 = true := by decide +kernel
theorem kX10_value_101 : am_dec cX10_value 101 [.lconst 0] 102 = true := by decide +kernel
theorem kX10_value_105 : am_dec cX10_value 105 [.lload_n 2, .lload 4] 108 = true := by decide +kernel
theorem kX10_value_109 : am_dec cX10_value 109 [.lstore 6] 111 = true := by decide +kernel
theorem kX10_value_117 : am_dec cX10_value 117 [.lload 6] 119 = true := by decide +kernel
theorem eX10_value_1 : decode cX10_value 1 = .ok (.getfield 16, 3) := by decide +kernel
theorem eX10_value_5 : decode cX10_value 5 = .ok (.if_icmp .ge 25, 3) := by decide +kernel
theorem eX10_value_9 : decode cX10_value 9 = .ok (.getfield 16, 3) := by decide +kernel
theorem eX10_value_12 : decode cX10_value 12 = .ok (.ifCond .ne 11, 3) := by decide +kernel
theorem eX10_value_16 : decode cX10_value 16 = .ok (.getfield 20, 3) := by decide +kernel
theorem eX10_value_19 : decode cX10_value 19 = .ok (.i2l, 1) := by decide +kernel
theorem eX10_value_20 : decode cX10_value 20 = .ok (.goto 9, 3) := by decide +kernel
theorem eX10_value_25 : decode cX10_value 25 = .ok (.getfield 20, 3) := by decide +kernel
theorem eX10_value_28 : decode cX10_value 28 = .ok (.laload, 1) := by decide +kernel
theorem eX10_value_29 : decode cX10_value 29 = .ok (.lreturn, 1) := by decide +kernel
theorem eX10_value_31 : decode cX10_value 31 = .ok (.getfield 27, 3) := by decide +kernel
theorem eX10_value_35 : decode cX10_value 35 = .ok (.invokevirtual 72, 3) := by decide +kernel
theorem eX10_value_40 : decode cX10_value 40 = .ok (.getfield 31, 3) := by decide +kernel
theorem eX10_value_44 : decode cX10_value 44 = .ok (.invokevirtual 72, 3) := by decide +kernel
theorem eX10_value_50 : decode cX10_value 50 = .ok (.getfield 16, 3) := by decide +kernel
theorem eX10_value_54 : decode cX10_value 54 = .ok (.if_icmp .ne 10, 3) := by decide +kernel
theorem eX10_value_61 : decode cX10_value 61 = .ok (.goto 48, 3) := by decide +kernel
theorem eX10_value_65 : decode cX10_value 65 = .ok (.getfield 16, 3) := by decide +kernel
theorem eX10_value_69 : decode cX10_value 69 = .ok (.if_icmp .ne 10, 3) := by decide +kernel
theorem eX10_value_76 : decode cX10_value 76 = .ok (.goto 33, 3) := by decide +kernel
theorem eX10_value_80 : decode cX10_value 80 = .ok (.getfield 16, 3) := by decide +kernel
theorem eX10_value_84 : decode cX10_value 84 = .ok (.if_icmp .ne 10, 3) := by decide +kernel
theorem eX10_value_91 : decode cX10_value 91 = .ok (.goto 18, 3) := by decide +kernel
theorem eX10_value_97 : decode cX10_value 97 = .ok (.lcmp, 1) := by decide +kernel
theorem eX10_value_98 : decode cX10_value 98 = .ok (.ifCond .ne 7, 3) := by decide +kernel
theorem eX10_value_102 : decode cX10_value 102 = .ok (.goto 7, 3) := by decide +kernel
theorem eX10_value_108 : decode cX10_value 108 = .ok (.ldiv, 1) := by decide +kernel
theorem eX10_value_111 : decode cX10_value 111 = .ok (.ldc2_w 76, 3) := by decide +kernel
theorem eX10_value_114 : decode cX10_value 114 = .ok (.ldc2_w 78, 3) := by decide +kernel
theorem eX10_value_119 : decode cX10_value 119 = .ok (.invokestatic 80, 3) := by decide +kernel
theorem eX10_value_122 : decode cX10_value 122 = .ok (.invokestatic 86, 3) := by decide +kernel
theorem eX10_value_125 : decode cX10_value 125 = .ok (.lreturn, 1) := by decide +kernel
theorem kX11_init_0 : am_dec cX11_init 0 [.aload_n 0] 1 = true := by decide +kernel
theorem kX11_init_4 : am_dec cX11_init 4 [.aload_n 0, .iload_n 1] 6 = true := by decide +kernel
theorem eX11_init_1 : decode cX11_init 1 = .ok (.invokespecial 1, 3) := by decide +kernel
theorem eX11_init_6 : decode cX11_init 6 = .ok (.putfield 7, 3) := by decide +kernel
theorem eX11_init_9 : decode cX11_init 9 = .ok (.return_, 1) := by decide +kernel
theorem kX11_below_0 : am_dec cX11_below 0 [.aload_n 0] 1 = true := by decide +kernel
theorem kX11_below_3 : am_dec cX11_below 3 [.aload_n 0] 4 = true := by decide +kernel
theorem kX11_below_7 : am_dec cX11_below 7 [.imul, .sipush 12345, .iadd] 12 = true := by decide +kernel
theorem kX11_below_15 : am_dec cX11_below 15 [.aload_n 0] 16 = true := by decide +kernel
theorem kX11_below_19 : am_dec cX11_below 19 [.bipush 16] 21 = true := by decide +kernel
theorem kX11_below_22 : am_dec cX11_below 22 [.iload_n 1] 23 = true := by decide +kernel
theorem eX11_below_1 : decode cX11_below 1 = .ok (.ldc 13, 2) := by decide +kernel
theorem eX11_below_4 : decode cX11_below 4 = .ok (.getfield 7, 3) := by decide +kernel
theorem eX11_below_12 : decode cX11_below 12 = .ok (.putfield 7, 3) := by decide +kernel
theorem eX11_below_16 : decode cX11_below 16 = .ok (.getfield 7, 3) := by decide +kernel
theorem eX11_below_21 : decode cX11_below 21 = .ok (.iushr, 1) := by decide +kernel
theorem eX11_below_23 : decode cX11_below 23 = .ok (.irem, 1) := by decide +kernel
theorem eX11_below_24 : decode cX11_below 24 = .ok (.ireturn, 1) := by decide +kernel
theorem kX12_init_0 : am_dec cX12_init 0 [.aload_n 0] 1 = true := by decide +kernel
theorem kX12_init_4 : am_dec cX12_init 4 [.aload_n 0, .iconst 0] 6 = true := by decide +kernel
theorem eX12_init_1 : decode cX12_init 1 = .ok (.invokespecial 1, 3) := by decide +kernel
theorem eX12_init_6 : decode cX12_init 6 = .ok (.newarray .int, 2) := by decide +kernel
theorem eX12_init_8 : decode cX12_init 8 = .ok (.putfield 7, 3) := by decide +kernel
theorem eX12_init_11 : decode cX12_init 11 = .ok (.return_, 1) := by decide +kernel
theorem kX12_copy_3 : am_dec cX12_copy 3 [.dup] 4 = true := by decide +kernel
theorem kX12_copy_7 : am_dec cX12_copy 7 [.astore_n 1, .aload_n 1, .aload_n 0] 10 = true := by decide +kernel
theorem kX12_copy_16 : am_dec cX12_copy 16 [.aload_n 1, .aload_n 0] 18 = true := by decide +kernel
theorem kX12_copy_24 : am_dec cX12_copy 24 [.aload_n 1, .aload_n 0] 26 = true := by decide +kernel
theorem kX12_copy_32 : am_dec cX12_copy 32 [.aload_n 1] 33 = true := by decide +kernel
theorem eX12_copy_0 : decode cX12_copy 0 = .ok (.new 8, 3) := by decide +kernel
theorem eX12_copy_4 : decode cX12_copy 4 = .ok (.invokespecial 13, 3) := by decide +kernel
theorem eX12_copy_10 : decode cX12_copy 10 = .ok (.getfield 14, 3) := by decide +kernel
theorem eX12_copy_13 : decode cX12_copy 13 = .ok (.putfield 14, 3) := by decide +kernel
theorem eX12_copy_18 : decode cX12_copy 18 = .ok (.getfield 18, 3) := by decide +kernel
theorem eX12_copy_21 : decode cX12_copy 21 = .ok (.putfield 18, 3) := by decide +kernel
theorem eX12_copy_26 : decode cX12_copy 26 = .ok (.getfield 7, 3) := by decide +kernel
theorem eX12_copy_29 : decode cX12_copy 29 = .ok (.putfield 7, 3) := by decide +kernel
theorem eX12_copy_33 : decode cX12_copy 33 = .ok (.areturn, 1) := by decide +kernel
theorem kX12_x_0 : am_dec cX12_x 0 [.aload_n 0] 1 = true := by decide +kernel
theorem kX12_x_4 : am_dec cX12_x 4 [.iload_n 1, .aload_n 0] 6 = true := by decide +kernel
theorem kX12_x_12 : am_dec cX12_x 12 [.bipush 100] 14 = true := by decide +kernel
theorem eX12_x_1 : decode cX12_x 1 = .ok (.getfield 7, 3) := by decide +kernel
theorem eX12_x_6 : decode cX12_x 6 = .ok (.getfield 7, 3) := by decide +kernel
theorem eX12_x_9 : decode cX12_x 9 = .ok (.arraylength, 1) := by decide +kernel
theorem eX12_x_10 : decode cX12_x 10 = .ok (.irem, 1) := by decide +kernel
theorem eX12_x_11 : decode cX12_x 11 = .ok (.iaload, 1) := by decide +kernel
theorem eX12_x_14 : decode cX12_x 14 = .ok (.idiv, 1) := by decide +kernel
theorem eX12_x_15 : decode cX12_x 15 = .ok (.ireturn, 1) := by decide +kernel
theorem kX12_y_0 : am_dec cX12_y 0 [.aload_n 0] 1 = true := by decide +kernel
theorem kX12_y_4 : am_dec cX12_y 4 [.iload_n 1, .aload_n 0] 6 = true := by decide +kernel
theorem kX12_y_12 : am_dec cX12_y 12 [.bipush 100] 14 = true := by decide +kernel
theorem eX12_y_1 : decode cX12_y 1 = .ok (.getfield 7, 3) := by decide +kernel
theorem eX12_y_6 : decode cX12_y 6 = .ok (.getfield 7, 3) := by decide +kernel
theorem eX12_y_9 : decode cX12_y 9 = .ok (.arraylength, 1) := by decide +kernel
theorem eX12_y_10 : decode cX12_y 10 = .ok (.irem, 1) := by decide +kernel
theorem eX12_y_11 : decode cX12_y 11 = .ok (.iaload, 1) := by decide +kernel
theorem eX12_y_14 : decode cX12_y 14 = .ok (.irem, 1) := by decide +kernel
theorem eX12_y_15 : decode cX12_y 15 = .ok (.ireturn, 1) := by decide +kernel
theorem kX12_sides_0 : am_dec cX12_sides 0 [.aload_n 0] 1 = true := by decide +kernel
theorem kX12_sides_7 : am_dec cX12_sides 7 [.aload_n 0] 8 = true := by decide +kernel
theorem kX12_sides_15 : am_dec cX12_sides 15 [.aload_n 0] 16 = true := by decide +kernel
theorem kX12_sides_20 : am_dec cX12_sides 20 [.iconst 1, .isub] 22 = true := by decide +kernel
theorem eX12_sides_1 : decode cX12_sides 1 = .ok (.getfield 18, 3) := by decide +kernel
theorem eX12_sides_4 : decode cX12_sides 4 = .ok (.ifCond .eq 11, 3) := by decide +kernel
theorem eX12_sides_8 : decode cX12_sides 8 = .ok (.getfield 7, 3) := by decide +kernel
theorem eX12_sides_11 : decode cX12_sides 11 = .ok (.arraylength, 1) := by decide +kernel
theorem eX12_sides_12 : decode cX12_sides 12 = .ok (.goto 10, 3) := by decide +kernel
theorem eX12_sides_16 : decode cX12_sides 16 = .ok (.getfield 7, 3) := by decide +kernel
theorem eX12_sides_19 : decode cX12_sides 19 = .ok (.arraylength, 1) := by decide +kernel
theorem eX12_sides_22 : decode cX12_sides 22 = .ok (.ireturn, 1) := by decide +kernel
theorem kX12_doubled_0 : am_dec cX12_doubled 0 [.iconst 0, .istore_n 1, .iconst 0, .istore_n 2] 4 = true := by decide +kernel
theorem kX12_doubled_4 : am_dec cX12_doubled 4 [.iload_n 2, .aload_n 0] 6 = true := by decide +kernel
theorem kX12_doubled_13 : am_dec cX12_doubled 13 [.iload_n 1, .aload_n 0, .iload_n 2] 16 = true := by decide +kernel
theorem kX12_doubled_19 : am_dec cX12_doubled 19 [.aload_n 0, .iload_n 2, .iconst 1, .iadd] 23 = true := by decide +kernel
theorem kX12_doubled_26 : am_dec cX12_doubled 26 [.isub, .aload_n 0, .iload_n 2] 29 = true := by decide +kernel
theorem kX12_doubled_32 : am_dec cX12_doubled 32 [.aload_n 0, .iload_n 2, .iconst 1, .iadd] 36 = true := by decide +kernel
theorem kX12_doubled_39 : am_dec cX12_doubled 39 [.iadd, .imul, .iadd, .istore_n 1, .iinc 2 1] 46 = true := by decide +kernel
theorem kX12_doubled_49 : am_dec cX12_doubled 49 [.iload_n 1] 50 = true := by decide +kernel
theorem eX12_doubled_6 : decode cX12_doubled 6 = .ok (.getfield 7, 3) := by decide +kernel
theorem eX12_doubled_9 : decode cX12_doubled 9 = .ok (.arraylength, 1) := by decide +kernel
theorem eX12_doubled_10 : decode cX12_doubled 10 = .ok (.if_icmp .ge 39, 3) := by decide +kernel
theorem eX12_doubled_16 : decode cX12_doubled 16 = .ok (.invokevirtual 22, 3) := by decide +kernel
theorem eX12_doubled_23 : decode cX12_doubled 23 = .ok (.invokevirtual 22, 3) := by decide +kernel
theorem eX12_doubled_29 : decode cX12_doubled 29 = .ok (.invokevirtual 26, 3) := by decide +kernel
theorem eX12_doubled_36 : decode cX12_doubled 36 = .ok (.invokevirtual 26, 3) := by decide +kernel
theorem eX12_doubled_46 : decode cX12_doubled 46 = .ok (.goto (-42), 3) := by decide +kernel
theorem eX12_doubled_50 : decode cX12_doubled 50 = .ok (.ireturn, 1) := by decide +kernel
theorem kX12_border_0 : am_dec cX12_border 0 [.iconst 0, .istore_n 1, .iconst 0, .istore_n 2] 4 = true := by decide +kernel
theorem kX12_border_4 : am_dec cX12_border 4 [.iload_n 2, .aload_n 0] 6 = true := by decide +kernel
theorem kX12_border_13 : am_dec cX12_border 13 [.iload_n 1, .aload_n 0, .iload_n 2, .iconst 1, .iadd] 18 = true := by decide +kernel
theorem kX12_border_21 : am_dec cX12_border 21 [.aload_n 0, .iload_n 2] 23 = true := by decide +kernel
theorem kX12_border_26 : am_dec cX12_border 26 [.isub, .aload_n 0, .iload_n 2, .iconst 1, .iadd] 31 = true := by decide +kernel
theorem kX12_border_34 : am_dec cX12_border 34 [.aload_n 0, .iload_n 2] 36 = true := by decide +kernel
theorem kX12_border_39 : am_dec cX12_border 39 [.isub] 40 = true := by decide +kernel
theorem kX12_border_43 : am_dec cX12_border 43 [.iadd, .istore_n 1, .iinc 2 1] 48 = true := by decide +kernel
theorem kX12_border_51 : am_dec cX12_border 51 [.iload_n 1] 52 = true := by decide +kernel
theorem eX12_border_6 : decode cX12_border 6 = .ok (.getfield 7, 3) := by decide +kernel
theorem eX12_border_9 : decode cX12_border 9 = .ok (.arraylength, 1) := by decide +kernel
theorem eX12_border_10 : decode cX12_border 10 = .ok (.if_icmp .ge 41, 3) := by decide +kernel
theorem eX12_border_18 : decode cX12_border 18 = .ok (.invokevirtual 22, 3) := by decide +kernel
theorem eX12_border_23 : decode cX12_border 23 = .ok (.invokevirtual 22, 3) := by decide +kernel
theorem eX12_border_31 : decode cX12_border 31 = .ok (.invokevirtual 26, 3) := by decide +kernel
theorem eX12_border_36 : decode cX12_border 36 = .ok (.invokevirtual 26, 3) := by decide +kernel
theorem eX12_border_40 : decode cX12_border 40 = .ok (.invokestatic 29, 3) := by decide +kernel
theorem eX12_border_48 : decode cX12_border 48 = .ok (.goto (-44), 3) := by decide +kernel
theorem eX12_border_52 : decode cX12_border 52 = .ok (.ireturn, 1) := by decide +kernel
theorem kX12_inner_0 : am_dec cX12_inner 0 [.aload_n 0] 1 = true := by decide +kernel
theorem kX12_inner_7 : am_dec cX12_inner 7 [.aload_n 0] 8 = true := by decide +kernel
theorem kX12_inner_11 : am_dec cX12_inner 11 [.isub, .iconst 2] 13 = true := by decide +kernel
theorem kX12_inner_14 : am_dec cX12_inner 14 [.iconst 1, .iadd] 16 = true := by decide +kernel
theorem eX12_inner_1 : decode cX12_inner 1 = .ok (.invokevirtual 35, 3) := by decide +kernel
theorem eX12_inner_4 : decode cX12_inner 4 = .ok (.invokestatic 39, 3) := by decide +kernel
theorem eX12_inner_8 : decode cX12_inner 8 = .ok (.invokevirtual 44, 3) := by decide +kernel
theorem eX12_inner_13 : decode cX12_inner 13 = .ok (.idiv, 1) := by decide +kernel
theorem eX12_inner_16 : decode cX12_inner 16 = .ok (.ireturn, 1) := by decide +kernel
theorem kX12_dents_0 : am_dec cX12_dents 0 [.aload_n 0] 1 = true := by decide +kernel
theorem kX12_dents_7 : am_dec cX12_dents 7 [.iconst 1] 8 = true := by decide +kernel
theorem kX12_dents_11 : am_dec cX12_dents 11 [.iconst (-1)] 12 = true := by decide +kernel
theorem kX12_dents_12 : am_dec cX12_dents 12 [.istore_n 1, .iconst 0, .istore_n 2, .iconst 0, .istore_n 3] 17 = true := by decide +kernel
theorem kX12_dents_17 : am_dec cX12_dents 17 [.iload_n 3, .aload_n 0] 19 = true := by decide +kernel
theorem kX12_dents_26 : am_dec cX12_dents 26 [.aload_n 0, .iload_n 3, .iconst 1, .iadd] 30 = true := by decide +kernel
theorem kX12_dents_33 : am_dec cX12_dents 33 [.aload_n 0, .iload_n 3] 35 = true := by decide +kernel
theorem kX12_dents_38 : am_dec cX12_dents 38 [.isub, .aload_n 0, .iload_n 3, .iconst 2, .iadd] 43 = true := by decide +kernel
theorem kX12_dents_46 : am_dec cX12_dents 46 [.aload_n 0, .iload_n 3, .iconst 1, .iadd] 50 = true := by decide +kernel
theorem kX12_dents_53 : am_dec cX12_dents 53 [.isub, .imul, .aload_n 0, .iload_n 3, .iconst 1, .iadd] 59 = true := by decide +kernel
theorem kX12_dents_62 : am_dec cX12_dents 62 [.aload_n 0, .iload_n 3] 64 = true := by decide +kernel
theorem kX12_dents_67 : am_dec cX12_dents 67 [.isub, .aload_n 0, .iload_n 3, .iconst 2, .iadd] 72 = true := by decide +kernel
theorem kX12_dents_75 : am_dec cX12_dents 75 [.aload_n 0, .iload_n 3, .iconst 1, .iadd] 79 = true := by decide +kernel
theorem kX12_dents_82 : am_dec cX12_dents 82 [.isub, .imul, .isub, .istore 4, .iload_n 1, .iload 4, .imul] 91 = true := by decide +kernel
theorem kX12_dents_94 : am_dec cX12_dents 94 [.iinc 2 1] 97 = true := by decide +kernel
theorem kX12_dents_97 : am_dec cX12_dents 97 [.iinc 3 1] 100 = true := by decide +kernel
theorem kX12_dents_103 : am_dec cX12_dents 103 [.iload_n 2] 104 = true := by decide +kernel
theorem eX12_dents_1 : decode cX12_dents 1 = .ok (.invokevirtual 35, 3) := by decide +kernel
theorem eX12_dents_4 : decode cX12_dents 4 = .ok (.ifCond .le 7, 3) := by decide +kernel
theorem eX12_dents_8 : decode cX12_dents 8 = .ok (.goto 4, 3) := by decide +kernel
theorem eX12_dents_19 : decode cX12_dents 19 = .ok (.getfield 7, 3) := by decide +kernel
theorem eX12_dents_22 : decode cX12_dents 22 = .ok (.arraylength, 1) := by decide +kernel
theorem eX12_dents_23 : decode cX12_dents 23 = .ok (.if_icmp .ge 80, 3) := by decide +kernel
theorem eX12_dents_30 : decode cX12_dents 30 = .ok (.invokevirtual 22, 3) := by decide +kernel
theorem eX12_dents_35 : decode cX12_dents 35 = .ok (.invokevirtual 22, 3) := by decide +kernel
theorem eX12_dents_43 : decode cX12_dents 43 = .ok (.invokevirtual 26, 3) := by decide +kernel
theorem eX12_dents_50 : decode cX12_dents 50 = .ok (.invokevirtual 26, 3) := by decide +kernel
theorem eX12_dents_59 : decode cX12_dents 59 = .ok (.invokevirtual 26, 3) := by decide +kernel
theorem eX12_dents_64 : decode cX12_dents 64 = .ok (.invokevirtual 26, 3) := by decide +kernel
theorem eX12_dents_72 : decode cX12_dents 72 = .ok (.invokevirtual 22, 3) := by decide +kernel
theorem eX12_dents_79 : decode cX12_dents 79 = .ok (.invokevirtual 22, 3) := by decide +kernel
theorem eX12_dents_91 : decode cX12_dents 91 = .ok (.ifCond .ge 6, 3) := by decide +kernel
theorem eX12_dents_100 : decode cX12_dents 100 = .ok (.goto (-83), 3) := by decide +kernel
theorem eX12_dents_104 : decode cX12_dents 104 = .ok (.ireturn, 1) := by decide +kernel
theorem kX12_where_0 : am_dec cX12_where 0 [.iconst 0, .istore_n 3, .iconst 0, .istore 4] 5 = true := by decide +kernel
theorem kX12_where_5 : am_dec cX12_where 5 [.iload 4, .aload_n 0] 8 = true := by decide +kernel
theorem kX12_where_15 : am_dec cX12_where 15 [.aload_n 0, .iload 4] 18 = true := by decide +kernel
theorem kX12_where_21 : am_dec cX12_where 21 [.istore 5, .aload_n 0, .iload 4] 26 = true := by decide +kernel
theorem kX12_where_29 : am_dec cX12_where 29 [.istore 6, .aload_n 0, .iload 4, .iconst 1, .iadd] 36 = true := by decide +kernel
theorem kX12_where_39 : am_dec cX12_where 39 [.istore 7, .aload_n 0, .iload 4, .iconst 1, .iadd] 46 = true := by decide +kernel
theorem kX12_where_49 : am_dec cX12_where 49 [.istore 8, .iload 7, .iload 5, .isub, .iload_n 2, .iload 6, .isub, .imul, .iload 8, .iload 6, .isub, .iload_n 1, .iload 5, .isub, .imul, .isub, .istore 9, .iload 9] 76 = true := by decide +kernel
theorem kX12_where_79 : am_dec cX12_where 79 [.iload_n 1, .iload 5, .isub, .iload_n 1, .iload 7, .isub, .imul] 88 = true := by decide +kernel
theorem kX12_where_91 : am_dec cX12_where 91 [.iload_n 2, .iload 6, .isub, .iload_n 2, .iload 8, .isub, .imul] 100 = true := by decide +kernel
theorem kX12_where_103 : am_dec cX12_where 103 [.iconst 1] 104 = true := by decide +kernel
theorem kX12_where_105 : am_dec cX12_where 105 [.iload 5, .iload_n 1] 108 = true := by decide +kernel
theorem kX12_where_111 : am_dec cX12_where 111 [.iload_n 1, .iload 7] 114 = true := by decide +kernel
theorem kX12_where_117 : am_dec cX12_where 117 [.iload 7, .iload_n 1] 120 = true := by decide +kernel
theorem kX12_where_123 : am_dec cX12_where 123 [.iload_n 1, .iload 5] 126 = true := by decide +kernel
theorem kX12_where_129 : am_dec cX12_where 129 [.iconst 1] 130 = true := by decide +kernel
theorem kX12_where_133 : am_dec cX12_where 133 [.iconst 0] 134 = true := by decide +kernel
theorem kX12_where_134 : am_dec cX12_where 134 [.istore 10, .iload 10] 138 = true := by decide +kernel
theorem kX12_where_141 : am_dec cX12_where 141 [.iload 7, .iload 5] 145 = true := by decide +kernel
theorem kX12_where_148 : am_dec cX12_where 148 [.iconst 1] 149 = true := by decide +kernel
theorem kX12_where_152 : am_dec cX12_where 152 [.iconst 0] 153 = true := by decide +kernel
theorem kX12_where_153 : am_dec cX12_where 153 [.iload 9] 155 = true := by decide +kernel
theorem kX12_where_158 : am_dec cX12_where 158 [.iconst 1] 159 = true := by decide +kernel
theorem kX12_where_162 : am_dec cX12_where 162 [.iconst 0] 163 = true := by decide +kernel
theorem kX12_where_166 : am_dec cX12_where 166 [.iload_n 3] 167 = true := by decide +kernel
theorem kX12_where_170 : am_dec cX12_where 170 [.iconst 1] 171 = true := by decide +kernel
theorem kX12_where_174 : am_dec cX12_where 174 [.iconst 0] 175 = true := by decide +kernel
theorem kX12_where_175 : am_dec cX12_where 175 [.istore_n 3] 176 = true := by decide +kernel
theorem kX12_where_176 : am_dec cX12_where 176 [.iinc 4 1] 179 = true := by decide +kernel
theorem kX12_where_182 : am_dec cX12_where 182 [.iload_n 3] 183 = true := by decide +kernel
theorem kX12_where_186 : am_dec cX12_where 186 [.iconst 2] 187 = true := by decide +kernel
theorem kX12_where_190 : am_dec cX12_where 190 [.iconst 0] 191 = true := by decide +kernel
theorem eX12_where_8 : decode cX12_where 8 = .ok (.getfield 7, 3) := by decide +kernel
theorem eX12_where_11 : decode cX12_where 11 = .ok (.arraylength, 1) := by decide +kernel
theorem eX12_where_12 : decode cX12_where 12 = .ok (.if_icmp .ge 170, 3) := by decide +kernel
theorem eX12_where_18 : decode cX12_where 18 = .ok (.invokevirtual 22, 3) := by decide +kernel
theorem eX12_where_26 : decode cX12_where 26 = .ok (.invokevirtual 26, 3) := by decide +kernel
theorem eX12_where_36 : decode cX12_where 36 = .ok (.invokevirtual 22, 3) := by decide +kernel
theorem eX12_where_46 : decode cX12_where 46 = .ok (.invokevirtual 26, 3) := by decide +kernel
theorem eX12_where_76 : decode cX12_where 76 = .ok (.ifCond .ne 29, 3) := by decide +kernel
theorem eX12_where_88 : decode cX12_where 88 = .ok (.ifCond .gt 17, 3) := by decide +kernel
theorem eX12_where_100 : decode cX12_where 100 = .ok (.ifCond .gt 5, 3) := by decide +kernel
theorem eX12_where_104 : decode cX12_where 104 = .ok (.ireturn, 1) := by decide +kernel
theorem eX12_where_108 : decode cX12_where 108 = .ok (.if_icmp .gt 9, 3) := by decide +kernel
theorem eX12_where_114 : decode cX12_where 114 = .ok (.if_icmp .lt 15, 3) := by decide +kernel
theorem eX12_where_120 : decode cX12_where 120 = .ok (.if_icmp .gt 13, 3) := by decide +kernel
theorem eX12_where_126 : decode cX12_where 126 = .ok (.if_icmp .ge 7, 3) := by decide +kernel
theorem eX12_where_130 : decode cX12_where 130 = .ok (.goto 4, 3) := by decide +kernel
theorem eX12_where_138 : decode cX12_where 138 = .ok (.ifCond .eq 38, 3) := by decide +kernel
theorem eX12_where_145 : decode cX12_where 145 = .ok (.if_icmp .le 7, 3) := by decide +kernel
theorem eX12_where_149 : decode cX12_where 149 = .ok (.goto 4, 3) := by decide +kernel
theorem eX12_where_155 : decode cX12_where 155 = .ok (.ifCond .ge 7, 3) := by decide +kernel
theorem eX12_where_159 : decode cX12_where 159 = .ok (.goto 4, 3) := by decide +kernel
theorem eX12_where_163 : decode cX12_where 163 = .ok (.if_icmp .ne 13, 3) := by decide +kernel
theorem eX12_where_167 : decode cX12_where 167 = .ok (.ifCond .ne 7, 3) := by decide +kernel
theorem eX12_where_171 : decode cX12_where 171 = .ok (.goto 4, 3) := by decide +kernel
theorem eX12_where_179 : decode cX12_where 179 = .ok (.goto (-174), 3) := by decide +kernel
theorem eX12_where_183 : decode cX12_where 183 = .ok (.ifCond .eq 7, 3) := by decide +kernel
theorem eX12_where_187 : decode cX12_where 187 = .ok (.goto 4, 3) := by decide +kernel
theorem eX12_where_191 : decode cX12_where 191 = .ok (.ireturn, 1) := by decide +kernel
