/-! What the bytes are (by program). -/
theorem kX0_init_0 : am_dec cX0_init 0 [.aload_n 0] 1 = true := by decide +kernel
theorem kX0_init_4 : am_dec cX0_init 4 [.aload_n 0, .bipush 20] 7 = true := by decide +kernel
theorem kX0_init_12 : am_dec cX0_init 12 [.aload_n 0, .bipush 20] 15 = true := by decide +kernel
theorem kX0_init_20 : am_dec cX0_init 20 [.aload_n 0, .bipush 20] 23 = true := by decide +kernel
theorem kX0_init_28 : am_dec cX0_init 28 [.aload_n 0, .bipush 20] 31 = true := by decide +kernel
theorem kX0_init_36 : am_dec cX0_init 36 [.aload_n 0, .bipush 6] 39 = true := by decide +kernel
theorem kX0_init_45 : am_dec cX0_init 45 [.iconst 0, .istore_n 1] 47 = true := by decide +kernel
theorem kX0_init_47 : am_dec cX0_init 47 [.iload_n 1, .bipush 6] 50 = true := by decide +kernel
theorem kX0_init_53 : am_dec cX0_init 53 [.aload_n 0] 54 = true := by decide +kernel
theorem kX0_init_57 : am_dec cX0_init 57 [.iload_n 1] 58 = true := by decide +kernel
theorem kX0_init_61 : am_dec cX0_init 61 [.dup] 62 = true := by decide +kernel
theorem kX0_init_66 : am_dec cX0_init 66 [.iinc 1 1] 69 = true := by decide +kernel
theorem kX0_init_72 : am_dec cX0_init 72 [.aload_n 0, .iconst 2] 74 = true := by decide +kernel
theorem kX0_init_77 : am_dec cX0_init 77 [.aload_n 0, .iconst 2] 79 = true := by decide +kernel
theorem kX0_init_82 : am_dec cX0_init 82 [.aload_n 0, .iconst 0] 84 = true := by decide +kernel
theorem kX0_init_87 : am_dec cX0_init 87 [.aload_n 0, .iconst 0] 89 = true := by decide +kernel
theorem kX0_init_92 : am_dec cX0_init 92 [.aload_n 0] 93 = true := by decide +kernel
theorem eX0_init_1 : decode cX0_init 1 = .ok (.invokespecial 3, 3) := by decide +kernel
theorem eX0_init_7 : decode cX0_init 7 = .ok (.newarray .int, 2) := by decide +kernel
theorem eX0_init_9 : decode cX0_init 9 = .ok (.putfield 9, 3) := by decide +kernel
theorem eX0_init_15 : decode cX0_init 15 = .ok (.newarray .int, 2) := by decide +kernel
theorem eX0_init_17 : decode cX0_init 17 = .ok (.putfield 15, 3) := by decide +kernel
theorem eX0_init_23 : decode cX0_init 23 = .ok (.newarray .int, 2) := by decide +kernel
theorem eX0_init_25 : decode cX0_init 25 = .ok (.putfield 18, 3) := by decide +kernel
theorem eX0_init_31 : decode cX0_init 31 = .ok (.newarray .int, 2) := by decide +kernel
theorem eX0_init_33 : decode cX0_init 33 = .ok (.putfield 21, 3) := by decide +kernel
theorem eX0_init_39 : decode cX0_init 39 = .ok (.anewarray 24, 3) := by decide +kernel
theorem eX0_init_42 : decode cX0_init 42 = .ok (.putfield 26, 3) := by decide +kernel
theorem eX0_init_50 : decode cX0_init 50 = .ok (.if_icmp .ge 22, 3) := by decide +kernel
theorem eX0_init_54 : decode cX0_init 54 = .ok (.getfield 26, 3) := by decide +kernel
theorem eX0_init_58 : decode cX0_init 58 = .ok (.new 24, 3) := by decide +kernel
theorem eX0_init_62 : decode cX0_init 62 = .ok (.invokespecial 30, 3) := by decide +kernel
theorem eX0_init_65 : decode cX0_init 65 = .ok (.aastore, 1) := by decide +kernel
theorem eX0_init_69 : decode cX0_init 69 = .ok (.goto (-22), 3) := by decide +kernel
theorem eX0_init_74 : decode cX0_init 74 = .ok (.putfield 31, 3) := by decide +kernel
theorem eX0_init_79 : decode cX0_init 79 = .ok (.putfield 35, 3) := by decide +kernel
theorem eX0_init_84 : decode cX0_init 84 = .ok (.putfield 38, 3) := by decide +kernel
theorem eX0_init_89 : decode cX0_init 89 = .ok (.putfield 41, 3) := by decide +kernel
theorem eX0_init_93 : decode cX0_init 93 = .ok (.getstatic 44, 3) := by decide +kernel
theorem eX0_init_96 : decode cX0_init 96 = .ok (.putfield 47, 3) := by decide +kernel
theorem eX0_init_99 : decode cX0_init 99 = .ok (.return_, 1) := by decide +kernel
theorem kX0_empty_0 : am_dec cX0_empty 0 [.aload_n 0, .iload_n 1] 2 = true := by decide +kernel
theorem kX0_empty_5 : am_dec cX0_empty 5 [.aload_n 0, .iload_n 2] 7 = true := by decide +kernel
theorem kX0_empty_10 : am_dec cX0_empty 10 [.aload_n 0, .iconst 0] 12 = true := by decide +kernel
theorem kX0_empty_15 : am_dec cX0_empty 15 [.aload_n 0, .iconst 0] 17 = true := by decide +kernel
theorem kX0_empty_20 : am_dec cX0_empty 20 [.aload_n 0] 21 = true := by decide +kernel
theorem eX0_empty_2 : decode cX0_empty 2 = .ok (.putfield 31, 3) := by decide +kernel
theorem eX0_empty_7 : decode cX0_empty 7 = .ok (.putfield 35, 3) := by decide +kernel
theorem eX0_empty_12 : decode cX0_empty 12 = .ok (.putfield 38, 3) := by decide +kernel
theorem eX0_empty_17 : decode cX0_empty 17 = .ok (.putfield 41, 3) := by decide +kernel
theorem eX0_empty_21 : decode cX0_empty 21 = .ok (.getstatic 44, 3) := by decide +kernel
theorem eX0_empty_24 : decode cX0_empty 24 = .ok (.putfield 47, 3) := by decide +kernel
theorem eX0_empty_27 : decode cX0_empty 27 = .ok (.return_, 1) := by decide +kernel
theorem kX0_copyFrom_0 : am_dec cX0_copyFrom 0 [.aload_n 1] 1 = true := by decide +kernel
theorem kX0_copyFrom_4 : am_dec cX0_copyFrom 4 [.iconst 0, .aload_n 0] 6 = true := by decide +kernel
theorem kX0_copyFrom_9 : am_dec cX0_copyFrom 9 [.iconst 0, .bipush 20] 12 = true := by decide +kernel
theorem kX0_copyFrom_15 : am_dec cX0_copyFrom 15 [.aload_n 1] 16 = true := by decide +kernel
theorem kX0_copyFrom_19 : am_dec cX0_copyFrom 19 [.iconst 0, .aload_n 0] 21 = true := by decide +kernel
theorem kX0_copyFrom_24 : am_dec cX0_copyFrom 24 [.iconst 0, .bipush 20] 27 = true := by decide +kernel
theorem kX0_copyFrom_30 : am_dec cX0_copyFrom 30 [.aload_n 1] 31 = true := by decide +kernel
theorem kX0_copyFrom_34 : am_dec cX0_copyFrom 34 [.iconst 0, .aload_n 0] 36 = true := by decide +kernel
theorem kX0_copyFrom_39 : am_dec cX0_copyFrom 39 [.iconst 0, .bipush 20] 42 = true := by decide +kernel
theorem kX0_copyFrom_45 : am_dec cX0_copyFrom 45 [.aload_n 1] 46 = true := by decide +kernel
theorem kX0_copyFrom_49 : am_dec cX0_copyFrom 49 [.iconst 0, .aload_n 0] 51 = true := by decide +kernel
theorem kX0_copyFrom_54 : am_dec cX0_copyFrom 54 [.iconst 0, .bipush 20] 57 = true := by decide +kernel
theorem kX0_copyFrom_60 : am_dec cX0_copyFrom 60 [.iconst 0, .istore_n 2] 62 = true := by decide +kernel
theorem kX0_copyFrom_62 : am_dec cX0_copyFrom 62 [.iload_n 2, .aload_n 1] 64 = true := by decide +kernel
theorem kX0_copyFrom_70 : am_dec cX0_copyFrom 70 [.aload_n 0, .iload_n 2] 72 = true := by decide +kernel
theorem kX0_copyFrom_75 : am_dec cX0_copyFrom 75 [.aload_n 1, .iload_n 2] 77 = true := by decide +kernel
theorem kX0_copyFrom_83 : am_dec cX0_copyFrom 83 [.iinc 2 1] 86 = true := by decide +kernel
theorem kX0_copyFrom_89 : am_dec cX0_copyFrom 89 [.aload_n 0, .aload_n 1] 91 = true := by decide +kernel
theorem kX0_copyFrom_97 : am_dec cX0_copyFrom 97 [.aload_n 0, .aload_n 1] 99 = true := by decide +kernel
theorem kX0_copyFrom_105 : am_dec cX0_copyFrom 105 [.aload_n 0, .aload_n 1] 107 = true := by decide +kernel
theorem kX0_copyFrom_113 : am_dec cX0_copyFrom 113 [.aload_n 0, .aload_n 1] 115 = true := by decide +kernel
theorem kX0_copyFrom_121 : am_dec cX0_copyFrom 121 [.aload_n 0, .aload_n 1] 123 = true := by decide +kernel
theorem eX0_copyFrom_1 : decode cX0_copyFrom 1 = .ok (.getfield 9, 3) := by decide +kernel
theorem eX0_copyFrom_6 : decode cX0_copyFrom 6 = .ok (.getfield 9, 3) := by decide +kernel
theorem eX0_copyFrom_12 : decode cX0_copyFrom 12 = .ok (.invokestatic 50, 3) := by decide +kernel
theorem eX0_copyFrom_16 : decode cX0_copyFrom 16 = .ok (.getfield 15, 3) := by decide +kernel
theorem eX0_copyFrom_21 : decode cX0_copyFrom 21 = .ok (.getfield 15, 3) := by decide +kernel
theorem eX0_copyFrom_27 : decode cX0_copyFrom 27 = .ok (.invokestatic 50, 3) := by decide +kernel
theorem eX0_copyFrom_31 : decode cX0_copyFrom 31 = .ok (.getfield 18, 3) := by decide +kernel
theorem eX0_copyFrom_36 : decode cX0_copyFrom 36 = .ok (.getfield 18, 3) := by decide +kernel
theorem eX0_copyFrom_42 : decode cX0_copyFrom 42 = .ok (.invokestatic 50, 3) := by decide +kernel
theorem eX0_copyFrom_46 : decode cX0_copyFrom 46 = .ok (.getfield 21, 3) := by decide +kernel
theorem eX0_copyFrom_51 : decode cX0_copyFrom 51 = .ok (.getfield 21, 3) := by decide +kernel
theorem eX0_copyFrom_57 : decode cX0_copyFrom 57 = .ok (.invokestatic 50, 3) := by decide +kernel
theorem eX0_copyFrom_64 : decode cX0_copyFrom 64 = .ok (.getfield 41, 3) := by decide +kernel
theorem eX0_copyFrom_67 : decode cX0_copyFrom 67 = .ok (.if_icmp .ge 22, 3) := by decide +kernel
theorem eX0_copyFrom_72 : decode cX0_copyFrom 72 = .ok (.invokevirtual 56, 3) := by decide +kernel
theorem eX0_copyFrom_77 : decode cX0_copyFrom 77 = .ok (.invokevirtual 56, 3) := by decide +kernel
theorem eX0_copyFrom_80 : decode cX0_copyFrom 80 = .ok (.invokevirtual 60, 3) := by decide +kernel
theorem eX0_copyFrom_86 : decode cX0_copyFrom 86 = .ok (.goto (-24), 3) := by decide +kernel
theorem eX0_copyFrom_91 : decode cX0_copyFrom 91 = .ok (.getfield 31, 3) := by decide +kernel
theorem eX0_copyFrom_94 : decode cX0_copyFrom 94 = .ok (.putfield 31, 3) := by decide +kernel
theorem eX0_copyFrom_99 : decode cX0_copyFrom 99 = .ok (.getfield 35, 3) := by decide +kernel
theorem eX0_copyFrom_102 : decode cX0_copyFrom 102 = .ok (.putfield 35, 3) := by decide +kernel
theorem eX0_copyFrom_107 : decode cX0_copyFrom 107 = .ok (.getfield 38, 3) := by decide +kernel
theorem eX0_copyFrom_110 : decode cX0_copyFrom 110 = .ok (.putfield 38, 3) := by decide +kernel
theorem eX0_copyFrom_115 : decode cX0_copyFrom 115 = .ok (.getfield 41, 3) := by decide +kernel
theorem eX0_copyFrom_118 : decode cX0_copyFrom 118 = .ok (.putfield 41, 3) := by decide +kernel
theorem eX0_copyFrom_123 : decode cX0_copyFrom 123 = .ok (.getfield 47, 3) := by decide +kernel
theorem eX0_copyFrom_126 : decode cX0_copyFrom 126 = .ok (.putfield 47, 3) := by decide +kernel
theorem eX0_copyFrom_129 : decode cX0_copyFrom 129 = .ok (.return_, 1) := by decide +kernel
theorem kX0_shapeAt_0 : am_dec cX0_shapeAt 0 [.aload_n 0] 1 = true := by decide +kernel
theorem kX0_shapeAt_4 : am_dec cX0_shapeAt 4 [.iload_n 1] 5 = true := by decide +kernel
theorem kX0_shapeAt_8 : am_dec cX0_shapeAt 8 [.iload_n 1, .bipush 6] 11 = true := by decide +kernel
theorem kX0_shapeAt_14 : am_dec cX0_shapeAt 14 [.iload_n 1] 15 = true := by decide +kernel
theorem kX0_shapeAt_18 : am_dec cX0_shapeAt 18 [.iconst 0] 19 = true := by decide +kernel
theorem eX0_shapeAt_1 : decode cX0_shapeAt 1 = .ok (.getfield 26, 3) := by decide +kernel
theorem eX0_shapeAt_5 : decode cX0_shapeAt 5 = .ok (.ifCond .lt 13, 3) := by decide +kernel
theorem eX0_shapeAt_11 : decode cX0_shapeAt 11 = .ok (.if_icmp .ge 7, 3) := by decide +kernel
theorem eX0_shapeAt_15 : decode cX0_shapeAt 15 = .ok (.goto 4, 3) := by decide +kernel
theorem eX0_shapeAt_19 : decode cX0_shapeAt 19 = .ok (.aaload, 1) := by decide +kernel
theorem eX0_shapeAt_20 : decode cX0_shapeAt 20 = .ok (.areturn, 1) := by decide +kernel
theorem kX0_startShape_0 : am_dec cX0_startShape 0 [.aload_n 0] 1 = true := by decide +kernel
theorem kX0_startShape_4 : am_dec cX0_startShape 4 [.bipush 6] 6 = true := by decide +kernel
theorem kX0_startShape_9 : am_dec cX0_startShape 9 [.iconst (-1)] 10 = true := by decide +kernel
theorem kX0_startShape_11 : am_dec cX0_startShape 11 [.aload_n 0, .aload_n 0] 13 = true := by decide +kernel
theorem kX0_startShape_19 : am_dec cX0_startShape 19 [.iload_n 1, .iload_n 2, .iload_n 3] 22 = true := by decide +kernel
theorem kX0_startShape_25 : am_dec cX0_startShape 25 [.aload_n 0, .dup] 27 = true := by decide +kernel
theorem kX0_startShape_30 : am_dec cX0_startShape 30 [.iconst 1, .iadd] 32 = true := by decide +kernel
theorem kX0_startShape_35 : am_dec cX0_startShape 35 [.aload_n 0] 36 = true := by decide +kernel
theorem kX0_startShape_39 : am_dec cX0_startShape 39 [.iconst 1, .isub] 41 = true := by decide +kernel
theorem eX0_startShape_1 : decode cX0_startShape 1 = .ok (.getfield 41, 3) := by decide +kernel
theorem eX0_startShape_6 : decode cX0_startShape 6 = .ok (.if_icmp .lt 5, 3) := by decide +kernel
theorem eX0_startShape_10 : decode cX0_startShape 10 = .ok (.ireturn, 1) := by decide +kernel
theorem eX0_startShape_13 : decode cX0_startShape 13 = .ok (.getfield 41, 3) := by decide +kernel
theorem eX0_startShape_16 : decode cX0_startShape 16 = .ok (.invokevirtual 56, 3) := by decide +kernel
theorem eX0_startShape_22 : decode cX0_startShape 22 = .ok (.invokevirtual 64, 3) := by decide +kernel
theorem eX0_startShape_27 : decode cX0_startShape 27 = .ok (.getfield 41, 3) := by decide +kernel
theorem eX0_startShape_32 : decode cX0_startShape 32 = .ok (.putfield 41, 3) := by decide +kernel
theorem eX0_startShape_36 : decode cX0_startShape 36 = .ok (.getfield 41, 3) := by decide +kernel
theorem eX0_startShape_41 : decode cX0_startShape 41 = .ok (.ireturn, 1) := by decide +kernel
theorem kX0_dropShape_0 : am_dec cX0_dropShape 0 [.iload_n 1] 1 = true := by decide +kernel
theorem kX0_dropShape_4 : am_dec cX0_dropShape 4 [.iload_n 1, .aload_n 0] 6 = true := by decide +kernel
theorem kX0_dropShape_13 : am_dec cX0_dropShape 13 [.iload_n 1, .iconst 1, .iadd, .istore_n 2] 17 = true := by decide +kernel
theorem kX0_dropShape_17 : am_dec cX0_dropShape 17 [.iload_n 2, .aload_n 0] 19 = true := by decide +kernel
theorem kX0_dropShape_25 : am_dec cX0_dropShape 25 [.aload_n 0, .iload_n 2, .iconst 1, .isub] 29 = true := by decide +kernel
theorem kX0_dropShape_32 : am_dec cX0_dropShape 32 [.aload_n 0, .iload_n 2] 34 = true := by decide +kernel
theorem kX0_dropShape_40 : am_dec cX0_dropShape 40 [.iinc 2 1] 43 = true := by decide +kernel
theorem kX0_dropShape_46 : am_dec cX0_dropShape 46 [.aload_n 0, .dup] 48 = true := by decide +kernel
theorem kX0_dropShape_51 : am_dec cX0_dropShape 51 [.iconst 1, .isub] 53 = true := by decide +kernel
theorem eX0_dropShape_1 : decode cX0_dropShape 1 = .ok (.ifCond .lt 11, 3) := by decide +kernel
theorem eX0_dropShape_6 : decode cX0_dropShape 6 = .ok (.getfield 41, 3) := by decide +kernel
theorem eX0_dropShape_9 : decode cX0_dropShape 9 = .ok (.if_icmp .lt 4, 3) := by decide +kernel
theorem eX0_dropShape_12 : decode cX0_dropShape 12 = .ok (.return_, 1) := by decide +kernel
theorem eX0_dropShape_19 : decode cX0_dropShape 19 = .ok (.getfield 41, 3) := by decide +kernel
theorem eX0_dropShape_22 : decode cX0_dropShape 22 = .ok (.if_icmp .ge 24, 3) := by decide +kernel
theorem eX0_dropShape_29 : decode cX0_dropShape 29 = .ok (.invokevirtual 56, 3) := by decide +kernel
theorem eX0_dropShape_34 : decode cX0_dropShape 34 = .ok (.invokevirtual 56, 3) := by decide +kernel
theorem eX0_dropShape_37 : decode cX0_dropShape 37 = .ok (.invokevirtual 60, 3) := by decide +kernel
theorem eX0_dropShape_43 : decode cX0_dropShape 43 = .ok (.goto (-26), 3) := by decide +kernel
theorem eX0_dropShape_48 : decode cX0_dropShape 48 = .ok (.getfield 41, 3) := by decide +kernel
theorem eX0_dropShape_53 : decode cX0_dropShape 53 = .ok (.putfield 41, 3) := by decide +kernel
theorem eX0_dropShape_56 : decode cX0_dropShape 56 = .ok (.return_, 1) := by decide +kernel
theorem kX0_addStone_0 : am_dec cX0_addStone 0 [.aload_n 0] 1 = true := by decide +kernel
theorem kX0_addStone_7 : am_dec cX0_addStone 7 [.aload_n 0] 8 = true := by decide +kernel
theorem kX0_addStone_11 : am_dec cX0_addStone 11 [.bipush 20] 13 = true := by decide +kernel
theorem kX0_addStone_16 : am_dec cX0_addStone 16 [.aload_n 0] 17 = true := by decide +kernel
theorem kX0_addStone_20 : am_dec cX0_addStone 20 [.aload_n 0] 21 = true := by decide +kernel
theorem kX0_addStone_24 : am_dec cX0_addStone 24 [.iload_n 1] 25 = true := by decide +kernel
theorem kX0_addStone_26 : am_dec cX0_addStone 26 [.aload_n 0] 27 = true := by decide +kernel
theorem kX0_addStone_30 : am_dec cX0_addStone 30 [.aload_n 0] 31 = true := by decide +kernel
theorem kX0_addStone_34 : am_dec cX0_addStone 34 [.iload_n 2] 35 = true := by decide +kernel
theorem kX0_addStone_36 : am_dec cX0_addStone 36 [.aload_n 0] 37 = true := by decide +kernel
theorem kX0_addStone_40 : am_dec cX0_addStone 40 [.aload_n 0] 41 = true := by decide +kernel
theorem kX0_addStone_44 : am_dec cX0_addStone 44 [.iload_n 3] 45 = true := by decide +kernel
theorem kX0_addStone_46 : am_dec cX0_addStone 46 [.aload_n 0, .dup] 48 = true := by decide +kernel
theorem kX0_addStone_51 : am_dec cX0_addStone 51 [.iconst 1, .iadd] 53 = true := by decide +kernel
theorem eX0_addStone_1 : decode cX0_addStone 1 = .ok (.getfield 38, 3) := by decide +kernel
theorem eX0_addStone_4 : decode cX0_addStone 4 = .ok (.ifCond .lt 52, 3) := by decide +kernel
theorem eX0_addStone_8 : decode cX0_addStone 8 = .ok (.getfield 38, 3) := by decide +kernel
theorem eX0_addStone_13 : decode cX0_addStone 13 = .ok (.if_icmp .ge 43, 3) := by decide +kernel
theorem eX0_addStone_17 : decode cX0_addStone 17 = .ok (.getfield 9, 3) := by decide +kernel
theorem eX0_addStone_21 : decode cX0_addStone 21 = .ok (.getfield 38, 3) := by decide +kernel
theorem eX0_addStone_25 : decode cX0_addStone 25 = .ok (.iastore, 1) := by decide +kernel
theorem eX0_addStone_27 : decode cX0_addStone 27 = .ok (.getfield 15, 3) := by decide +kernel
theorem eX0_addStone_31 : decode cX0_addStone 31 = .ok (.getfield 38, 3) := by decide +kernel
theorem eX0_addStone_35 : decode cX0_addStone 35 = .ok (.iastore, 1) := by decide +kernel
theorem eX0_addStone_37 : decode cX0_addStone 37 = .ok (.getfield 18, 3) := by decide +kernel
theorem eX0_addStone_41 : decode cX0_addStone 41 = .ok (.getfield 38, 3) := by decide +kernel
theorem eX0_addStone_45 : decode cX0_addStone 45 = .ok (.iastore, 1) := by decide +kernel
theorem eX0_addStone_48 : decode cX0_addStone 48 = .ok (.getfield 38, 3) := by decide +kernel
theorem eX0_addStone_53 : decode cX0_addStone 53 = .ok (.putfield 38, 3) := by decide +kernel
theorem eX0_addStone_56 : decode cX0_addStone 56 = .ok (.return_, 1) := by decide +kernel
theorem kX0_stoneX_0 : am_dec cX0_stoneX 0 [.iload_n 1] 1 = true := by decide +kernel
theorem kX0_stoneX_4 : am_dec cX0_stoneX 4 [.iload_n 1, .bipush 20] 7 = true := by decide +kernel
theorem kX0_stoneX_10 : am_dec cX0_stoneX 10 [.aload_n 0] 11 = true := by decide +kernel
theorem kX0_stoneX_14 : am_dec cX0_stoneX 14 [.iload_n 1] 15 = true := by decide +kernel
theorem kX0_stoneX_19 : am_dec cX0_stoneX 19 [.iconst 0] 20 = true := by decide +kernel
theorem eX0_stoneX_1 : decode cX0_stoneX 1 = .ok (.ifCond .lt 18, 3) := by decide +kernel
theorem eX0_stoneX_7 : decode cX0_stoneX 7 = .ok (.if_icmp .ge 12, 3) := by decide +kernel
theorem eX0_stoneX_11 : decode cX0_stoneX 11 = .ok (.getfield 9, 3) := by decide +kernel
theorem eX0_stoneX_15 : decode cX0_stoneX 15 = .ok (.iaload, 1) := by decide +kernel
theorem eX0_stoneX_16 : decode cX0_stoneX 16 = .ok (.goto 4, 3) := by decide +kernel
theorem eX0_stoneX_20 : decode cX0_stoneX 20 = .ok (.ireturn, 1) := by decide +kernel
theorem kX0_stoneY_0 : am_dec cX0_stoneY 0 [.iload_n 1] 1 = true := by decide +kernel
theorem kX0_stoneY_4 : am_dec cX0_stoneY 4 [.iload_n 1, .bipush 20] 7 = true := by decide +kernel
theorem kX0_stoneY_10 : am_dec cX0_stoneY 10 [.aload_n 0] 11 = true := by decide +kernel
theorem kX0_stoneY_14 : am_dec cX0_stoneY 14 [.iload_n 1] 15 = true := by decide +kernel
theorem kX0_stoneY_19 : am_dec cX0_stoneY 19 [.iconst 0] 20 = true := by decide +kernel
theorem eX0_stoneY_1 : decode cX0_stoneY 1 = .ok (.ifCond .lt 18, 3) := by decide +kernel
theorem eX0_stoneY_7 : decode cX0_stoneY 7 = .ok (.if_icmp .ge 12, 3) := by decide +kernel
theorem eX0_stoneY_11 : decode cX0_stoneY 11 = .ok (.getfield 15, 3) := by decide +kernel
theorem eX0_stoneY_15 : decode cX0_stoneY 15 = .ok (.iaload, 1) := by decide +kernel
theorem eX0_stoneY_16 : decode cX0_stoneY 16 = .ok (.goto 4, 3) := by decide +kernel
theorem eX0_stoneY_20 : decode cX0_stoneY 20 = .ok (.ireturn, 1) := by decide +kernel
theorem kX0_stoneValue_0 : am_dec cX0_stoneValue 0 [.iload_n 1] 1 = true := by decide +kernel
theorem kX0_stoneValue_4 : am_dec cX0_stoneValue 4 [.iload_n 1, .bipush 20] 7 = true := by decide +kernel
theorem kX0_stoneValue_10 : am_dec cX0_stoneValue 10 [.aload_n 0] 11 = true := by decide +kernel
theorem kX0_stoneValue_14 : am_dec cX0_stoneValue 14 [.iload_n 1] 15 = true := by decide +kernel
theorem kX0_stoneValue_19 : am_dec cX0_stoneValue 19 [.iconst 0] 20 = true := by decide +kernel
theorem eX0_stoneValue_1 : decode cX0_stoneValue 1 = .ok (.ifCond .lt 18, 3) := by decide +kernel
theorem eX0_stoneValue_7 : decode cX0_stoneValue 7 = .ok (.if_icmp .ge 12, 3) := by decide +kernel
theorem eX0_stoneValue_11 : decode cX0_stoneValue 11 = .ok (.getfield 18, 3) := by decide +kernel
theorem eX0_stoneValue_15 : decode cX0_stoneValue 15 = .ok (.iaload, 1) := by decide +kernel
theorem eX0_stoneValue_16 : decode cX0_stoneValue 16 = .ok (.goto 4, 3) := by decide +kernel
theorem eX0_stoneValue_20 : decode cX0_stoneValue 20 = .ok (.ireturn, 1) := by decide +kernel
theorem kX0_claimOf_0 : am_dec cX0_claimOf 0 [.iload_n 1] 1 = true := by decide +kernel
theorem kX0_claimOf_4 : am_dec cX0_claimOf 4 [.iload_n 1, .bipush 20] 7 = true := by decide +kernel
theorem kX0_claimOf_10 : am_dec cX0_claimOf 10 [.aload_n 0] 11 = true := by decide +kernel
theorem kX0_claimOf_14 : am_dec cX0_claimOf 14 [.iload_n 1] 15 = true := by decide +kernel
theorem kX0_claimOf_19 : am_dec cX0_claimOf 19 [.iconst (-1)] 20 = true := by decide +kernel
theorem eX0_claimOf_1 : decode cX0_claimOf 1 = .ok (.ifCond .lt 18, 3) := by decide +kernel
theorem eX0_claimOf_7 : decode cX0_claimOf 7 = .ok (.if_icmp .ge 12, 3) := by decide +kernel
theorem eX0_claimOf_11 : decode cX0_claimOf 11 = .ok (.getfield 21, 3) := by decide +kernel
theorem eX0_claimOf_15 : decode cX0_claimOf 15 = .ok (.iaload, 1) := by decide +kernel
theorem eX0_claimOf_16 : decode cX0_claimOf 16 = .ok (.goto 4, 3) := by decide +kernel
theorem eX0_claimOf_20 : decode cX0_claimOf 20 = .ok (.ireturn, 1) := by decide +kernel
theorem kX0_settleClaims_0 : am_dec cX0_settleClaims 0 [.iconst 0, .istore_n 1] 2 = true := by decide +kernel
theorem kX0_settleClaims_2 : am_dec cX0_settleClaims 2 [.iload_n 1, .aload_n 0] 4 = true := by decide +kernel
theorem kX0_settleClaims_10 : am_dec cX0_settleClaims 10 [.iload_n 1, .bipush 20] 13 = true := by decide +kernel
theorem kX0_settleClaims_16 : am_dec cX0_settleClaims 16 [.aload_n 0] 17 = true := by decide +kernel
theorem kX0_settleClaims_20 : am_dec cX0_settleClaims 20 [.iload_n 1, .aload_n 0, .aload_n 0] 23 = true := by decide +kernel
theorem kX0_settleClaims_26 : am_dec cX0_settleClaims 26 [.iload_n 1] 27 = true := by decide +kernel
theorem kX0_settleClaims_28 : am_dec cX0_settleClaims 28 [.aload_n 0] 29 = true := by decide +kernel
theorem kX0_settleClaims_32 : am_dec cX0_settleClaims 32 [.iload_n 1] 33 = true := by decide +kernel
theorem kX0_settleClaims_38 : am_dec cX0_settleClaims 38 [.iinc 1 1] 41 = true := by decide +kernel
theorem eX0_settleClaims_4 : decode cX0_settleClaims 4 = .ok (.getfield 38, 3) := by decide +kernel
theorem eX0_settleClaims_7 : decode cX0_settleClaims 7 = .ok (.if_icmp .ge 37, 3) := by decide +kernel
theorem eX0_settleClaims_13 : decode cX0_settleClaims 13 = .ok (.if_icmp .ge 31, 3) := by decide +kernel
theorem eX0_settleClaims_17 : decode cX0_settleClaims 17 = .ok (.getfield 21, 3) := by decide +kernel
theorem eX0_settleClaims_23 : decode cX0_settleClaims 23 = .ok (.getfield 9, 3) := by decide +kernel
theorem eX0_settleClaims_27 : decode cX0_settleClaims 27 = .ok (.iaload, 1) := by decide +kernel
theorem eX0_settleClaims_29 : decode cX0_settleClaims 29 = .ok (.getfield 15, 3) := by decide +kernel
theorem eX0_settleClaims_33 : decode cX0_settleClaims 33 = .ok (.iaload, 1) := by decide +kernel
theorem eX0_settleClaims_34 : decode cX0_settleClaims 34 = .ok (.invokevirtual 68, 3) := by decide +kernel
theorem eX0_settleClaims_37 : decode cX0_settleClaims 37 = .ok (.iastore, 1) := by decide +kernel
theorem eX0_settleClaims_41 : decode cX0_settleClaims 41 = .ok (.goto (-39), 3) := by decide +kernel
theorem eX0_settleClaims_44 : decode cX0_settleClaims 44 = .ok (.return_, 1) := by decide +kernel
theorem kX0_smallestAround_0 : am_dec cX0_smallestAround 0 [.iconst (-1), .istore_n 3, .iconst 0, .istore 4, .iconst 0, .istore 5] 8 = true := by decide +kernel
theorem kX0_smallestAround_8 : am_dec cX0_smallestAround 8 [.iload 5, .aload_n 0] 11 = true := by decide +kernel
theorem kX0_smallestAround_17 : am_dec cX0_smallestAround 17 [.aload_n 0, .iload 5] 20 = true := by decide +kernel
theorem kX0_smallestAround_23 : am_dec cX0_smallestAround 23 [.astore 6, .aload 6] 27 = true := by decide +kernel
theorem kX0_smallestAround_33 : am_dec cX0_smallestAround 33 [.aload 6, .iload_n 1, .iload_n 2] 37 = true := by decide +kernel
theorem kX0_smallestAround_40 : am_dec cX0_smallestAround 40 [.iconst 2] 41 = true := by decide +kernel
theorem kX0_smallestAround_44 : am_dec cX0_smallestAround 44 [.aload 6] 46 = true := by decide +kernel
theorem kX0_smallestAround_49 : am_dec cX0_smallestAround 49 [.istore 7, .iload_n 3, .iconst (-1)] 53 = true := by decide +kernel
theorem kX0_smallestAround_56 : am_dec cX0_smallestAround 56 [.iload 7, .iload 4] 60 = true := by decide +kernel
theorem kX0_smallestAround_63 : am_dec cX0_smallestAround 63 [.iload 5, .istore_n 3, .iload 7, .istore 4] 70 = true := by decide +kernel
theorem kX0_smallestAround_70 : am_dec cX0_smallestAround 70 [.iinc 5 1] 73 = true := by decide +kernel
theorem kX0_smallestAround_76 : am_dec cX0_smallestAround 76 [.iload_n 3] 77 = true := by decide +kernel
theorem eX0_smallestAround_11 : decode cX0_smallestAround 11 = .ok (.getfield 41, 3) := by decide +kernel
theorem eX0_smallestAround_14 : decode cX0_smallestAround 14 = .ok (.if_icmp .ge 62, 3) := by decide +kernel
theorem eX0_smallestAround_20 : decode cX0_smallestAround 20 = .ok (.invokevirtual 56, 3) := by decide +kernel
theorem eX0_smallestAround_27 : decode cX0_smallestAround 27 = .ok (.getfield 72, 3) := by decide +kernel
theorem eX0_smallestAround_30 : decode cX0_smallestAround 30 = .ok (.ifCond .eq 40, 3) := by decide +kernel
theorem eX0_smallestAround_37 : decode cX0_smallestAround 37 = .ok (.invokevirtual 76, 3) := by decide +kernel
theorem eX0_smallestAround_41 : decode cX0_smallestAround 41 = .ok (.if_icmp .ne 29, 3) := by decide +kernel
theorem eX0_smallestAround_46 : decode cX0_smallestAround 46 = .ok (.invokevirtual 79, 3) := by decide +kernel
theorem eX0_smallestAround_53 : decode cX0_smallestAround 53 = .ok (.if_icmp .eq 10, 3) := by decide +kernel
theorem eX0_smallestAround_60 : decode cX0_smallestAround 60 = .ok (.if_icmp .ge 10, 3) := by decide +kernel
theorem eX0_smallestAround_73 : decode cX0_smallestAround 73 = .ok (.goto (-65), 3) := by decide +kernel
theorem eX0_smallestAround_77 : decode cX0_smallestAround 77 = .ok (.ireturn, 1) := by decide +kernel
theorem kX0_claimedStones_0 : am_dec cX0_claimedStones 0 [.iconst 0, .istore_n 1, .iconst 0, .istore_n 2] 4 = true := by decide +kernel
theorem kX0_claimedStones_4 : am_dec cX0_claimedStones 4 [.iload_n 2, .aload_n 0] 6 = true := by decide +kernel
theorem kX0_claimedStones_12 : am_dec cX0_claimedStones 12 [.aload_n 0, .iload_n 2] 14 = true := by decide +kernel
theorem kX0_claimedStones_17 : am_dec cX0_claimedStones 17 [.iconst (-1)] 18 = true := by decide +kernel
theorem kX0_claimedStones_21 : am_dec cX0_claimedStones 21 [.iinc 1 1] 24 = true := by decide +kernel
theorem kX0_claimedStones_24 : am_dec cX0_claimedStones 24 [.iinc 2 1] 27 = true := by decide +kernel
theorem kX0_claimedStones_30 : am_dec cX0_claimedStones 30 [.iload_n 1] 31 = true := by decide +kernel
theorem eX0_claimedStones_6 : decode cX0_claimedStones 6 = .ok (.getfield 38, 3) := by decide +kernel
theorem eX0_claimedStones_9 : decode cX0_claimedStones 9 = .ok (.if_icmp .ge 21, 3) := by decide +kernel
theorem eX0_claimedStones_14 : decode cX0_claimedStones 14 = .ok (.invokevirtual 83, 3) := by decide +kernel
theorem eX0_claimedStones_18 : decode cX0_claimedStones 18 = .ok (.if_icmp .eq 6, 3) := by decide +kernel
theorem eX0_claimedStones_27 : decode cX0_claimedStones 27 = .ok (.goto (-23), 3) := by decide +kernel
theorem eX0_claimedStones_31 : decode cX0_claimedStones 31 = .ok (.ireturn, 1) := by decide +kernel
theorem kX0_stonesOf_0 : am_dec cX0_stonesOf 0 [.iconst 0, .istore_n 2, .iconst 0, .istore_n 3] 4 = true := by decide +kernel
theorem kX0_stonesOf_4 : am_dec cX0_stonesOf 4 [.iload_n 3, .aload_n 0] 6 = true := by decide +kernel
theorem kX0_stonesOf_12 : am_dec cX0_stonesOf 12 [.aload_n 0, .iload_n 3] 14 = true := by decide +kernel
theorem kX0_stonesOf_17 : am_dec cX0_stonesOf 17 [.iload_n 1] 18 = true := by decide +kernel
theorem kX0_stonesOf_21 : am_dec cX0_stonesOf 21 [.iinc 2 1] 24 = true := by decide +kernel
theorem kX0_stonesOf_24 : am_dec cX0_stonesOf 24 [.iinc 3 1] 27 = true := by decide +kernel
theorem kX0_stonesOf_30 : am_dec cX0_stonesOf 30 [.iload_n 2] 31 = true := by decide +kernel
theorem eX0_stonesOf_6 : decode cX0_stonesOf 6 = .ok (.getfield 38, 3) := by decide +kernel
theorem eX0_stonesOf_9 : decode cX0_stonesOf 9 = .ok (.if_icmp .ge 21, 3) := by decide +kernel
theorem eX0_stonesOf_14 : decode cX0_stonesOf 14 = .ok (.invokevirtual 83, 3) := by decide +kernel
theorem eX0_stonesOf_18 : decode cX0_stonesOf 18 = .ok (.if_icmp .ne 6, 3) := by decide +kernel
theorem eX0_stonesOf_27 : decode cX0_stonesOf 27 = .ok (.goto (-23), 3) := by decide +kernel
theorem eX0_stonesOf_31 : decode cX0_stonesOf 31 = .ok (.ireturn, 1) := by decide +kernel
theorem kX0_valueOfStonesOf_0 : am_dec cX0_valueOfStonesOf 0 [.iconst 0, .istore_n 2, .iconst 0, .istore_n 3] 4 = true := by decide +kernel
theorem kX0_valueOfStonesOf_4 : am_dec cX0_valueOfStonesOf 4 [.iload_n 3, .aload_n 0] 6 = true := by decide +kernel
theorem kX0_valueOfStonesOf_12 : am_dec cX0_valueOfStonesOf 12 [.aload_n 0, .iload_n 3] 14 = true := by decide +kernel
theorem kX0_valueOfStonesOf_17 : am_dec cX0_valueOfStonesOf 17 [.iload_n 1] 18 = true := by decide +kernel
theorem kX0_valueOfStonesOf_21 : am_dec cX0_valueOfStonesOf 21 [.iload_n 2, .aload_n 0, .iload_n 3] 24 = true := by decide +kernel
theorem kX0_valueOfStonesOf_27 : am_dec cX0_valueOfStonesOf 27 [.iadd, .istore_n 2] 29 = true := by decide +kernel
theorem kX0_valueOfStonesOf_29 : am_dec cX0_valueOfStonesOf 29 [.iinc 3 1] 32 = true := by decide +kernel
theorem kX0_valueOfStonesOf_35 : am_dec cX0_valueOfStonesOf 35 [.iload_n 2] 36 = true := by decide +kernel
theorem eX0_valueOfStonesOf_6 : decode cX0_valueOfStonesOf 6 = .ok (.getfield 38, 3) := by decide +kernel
theorem eX0_valueOfStonesOf_9 : decode cX0_valueOfStonesOf 9 = .ok (.if_icmp .ge 26, 3) := by decide +kernel
theorem eX0_valueOfStonesOf_14 : decode cX0_valueOfStonesOf 14 = .ok (.invokevirtual 83, 3) := by decide +kernel
theorem eX0_valueOfStonesOf_18 : decode cX0_valueOfStonesOf 18 = .ok (.if_icmp .ne 11, 3) := by decide +kernel
theorem eX0_valueOfStonesOf_24 : decode cX0_valueOfStonesOf 24 = .ok (.invokevirtual 87, 3) := by decide +kernel
theorem eX0_valueOfStonesOf_32 : decode cX0_valueOfStonesOf 32 = .ok (.goto (-28), 3) := by decide +kernel
theorem eX0_valueOfStonesOf_36 : decode cX0_valueOfStonesOf 36 = .ok (.ireturn, 1) := by decide +kernel
theorem kX0_closedShapes_0 : am_dec cX0_closedShapes 0 [.iconst 0, .istore_n 1, .iconst 0, .istore_n 2] 4 = true := by decide +kernel
theorem kX0_closedShapes_4 : am_dec cX0_closedShapes 4 [.iload_n 2, .aload_n 0] 6 = true := by decide +kernel
theorem kX0_closedShapes_12 : am_dec cX0_closedShapes 12 [.aload_n 0, .iload_n 2] 14 = true := by decide +kernel
theorem kX0_closedShapes_23 : am_dec cX0_closedShapes 23 [.iinc 1 1] 26 = true := by decide +kernel
theorem kX0_closedShapes_26 : am_dec cX0_closedShapes 26 [.iinc 2 1] 29 = true := by decide +kernel
theorem kX0_closedShapes_32 : am_dec cX0_closedShapes 32 [.iload_n 1] 33 = true := by decide +kernel
theorem eX0_closedShapes_6 : decode cX0_closedShapes 6 = .ok (.getfield 41, 3) := by decide +kernel
theorem eX0_closedShapes_9 : decode cX0_closedShapes 9 = .ok (.if_icmp .ge 23, 3) := by decide +kernel
theorem eX0_closedShapes_14 : decode cX0_closedShapes 14 = .ok (.invokevirtual 56, 3) := by decide +kernel
theorem eX0_closedShapes_17 : decode cX0_closedShapes 17 = .ok (.getfield 72, 3) := by decide +kernel
theorem eX0_closedShapes_20 : decode cX0_closedShapes 20 = .ok (.ifCond .eq 6, 3) := by decide +kernel
theorem eX0_closedShapes_29 : decode cX0_closedShapes 29 = .ok (.goto (-25), 3) := by decide +kernel
theorem eX0_closedShapes_33 : decode cX0_closedShapes 33 = .ok (.ireturn, 1) := by decide +kernel
theorem kX0_isStoneOrCorner_0 : am_dec cX0_isStoneOrCorner 0 [.iconst 0, .istore_n 3] 2 = true := by decide +kernel
theorem kX0_isStoneOrCorner_2 : am_dec cX0_isStoneOrCorner 2 [.iload_n 3, .aload_n 0] 4 = true := by decide +kernel
theorem kX0_isStoneOrCorner_10 : am_dec cX0_isStoneOrCorner 10 [.aload_n 0, .iload_n 3] 12 = true := by decide +kernel
theorem kX0_isStoneOrCorner_15 : am_dec cX0_isStoneOrCorner 15 [.iload_n 1] 16 = true := by decide +kernel
theorem kX0_isStoneOrCorner_19 : am_dec cX0_isStoneOrCorner 19 [.aload_n 0, .iload_n 3] 21 = true := by decide +kernel
theorem kX0_isStoneOrCorner_24 : am_dec cX0_isStoneOrCorner 24 [.iload_n 2] 25 = true := by decide +kernel
theorem kX0_isStoneOrCorner_28 : am_dec cX0_isStoneOrCorner 28 [.iconst 1] 29 = true := by decide +kernel
theorem kX0_isStoneOrCorner_30 : am_dec cX0_isStoneOrCorner 30 [.iinc 3 1] 33 = true := by decide +kernel
theorem kX0_isStoneOrCorner_36 : am_dec cX0_isStoneOrCorner 36 [.iconst 0, .istore_n 3] 38 = true := by decide +kernel
theorem kX0_isStoneOrCorner_38 : am_dec cX0_isStoneOrCorner 38 [.iload_n 3, .aload_n 0] 40 = true := by decide +kernel
theorem kX0_isStoneOrCorner_46 : am_dec cX0_isStoneOrCorner 46 [.aload_n 0, .iload_n 3] 48 = true := by decide +kernel
theorem kX0_isStoneOrCorner_51 : am_dec cX0_isStoneOrCorner 51 [.iload_n 1, .iload_n 2] 53 = true := by decide +kernel
theorem kX0_isStoneOrCorner_59 : am_dec cX0_isStoneOrCorner 59 [.iconst 1] 60 = true := by decide +kernel
theorem kX0_isStoneOrCorner_61 : am_dec cX0_isStoneOrCorner 61 [.iinc 3 1] 64 = true := by decide +kernel
theorem kX0_isStoneOrCorner_67 : am_dec cX0_isStoneOrCorner 67 [.iconst 0] 68 = true := by decide +kernel
theorem eX0_isStoneOrCorner_4 : decode cX0_isStoneOrCorner 4 = .ok (.getfield 38, 3) := by decide +kernel
theorem eX0_isStoneOrCorner_7 : decode cX0_isStoneOrCorner 7 = .ok (.if_icmp .ge 29, 3) := by decide +kernel
theorem eX0_isStoneOrCorner_12 : decode cX0_isStoneOrCorner 12 = .ok (.invokevirtual 90, 3) := by decide +kernel
theorem eX0_isStoneOrCorner_16 : decode cX0_isStoneOrCorner 16 = .ok (.if_icmp .ne 14, 3) := by decide +kernel
theorem eX0_isStoneOrCorner_21 : decode cX0_isStoneOrCorner 21 = .ok (.invokevirtual 93, 3) := by decide +kernel
theorem eX0_isStoneOrCorner_25 : decode cX0_isStoneOrCorner 25 = .ok (.if_icmp .ne 5, 3) := by decide +kernel
theorem eX0_isStoneOrCorner_29 : decode cX0_isStoneOrCorner 29 = .ok (.ireturn, 1) := by decide +kernel
theorem eX0_isStoneOrCorner_33 : decode cX0_isStoneOrCorner 33 = .ok (.goto (-31), 3) := by decide +kernel
theorem eX0_isStoneOrCorner_40 : decode cX0_isStoneOrCorner 40 = .ok (.getfield 41, 3) := by decide +kernel
theorem eX0_isStoneOrCorner_43 : decode cX0_isStoneOrCorner 43 = .ok (.if_icmp .ge 24, 3) := by decide +kernel
theorem eX0_isStoneOrCorner_48 : decode cX0_isStoneOrCorner 48 = .ok (.invokevirtual 56, 3) := by decide +kernel
theorem eX0_isStoneOrCorner_53 : decode cX0_isStoneOrCorner 53 = .ok (.invokevirtual 96, 3) := by decide +kernel
theorem eX0_isStoneOrCorner_56 : decode cX0_isStoneOrCorner 56 = .ok (.ifCond .eq 5, 3) := by decide +kernel
theorem eX0_isStoneOrCorner_60 : decode cX0_isStoneOrCorner 60 = .ok (.ireturn, 1) := by decide +kernel
theorem eX0_isStoneOrCorner_64 : decode cX0_isStoneOrCorner 64 = .ok (.goto (-26), 3) := by decide +kernel
theorem eX0_isStoneOrCorner_68 : decode cX0_isStoneOrCorner 68 = .ok (.ireturn, 1) := by decide +kernel
theorem kX0_isOccupied_0 : am_dec cX0_isOccupied 0 [.aload_n 0, .iload_n 1, .iload_n 2] 3 = true := by decide +kernel
theorem kX0_isOccupied_9 : am_dec cX0_isOccupied 9 [.iconst 1] 10 = true := by decide +kernel
theorem kX0_isOccupied_11 : am_dec cX0_isOccupied 11 [.iconst 0, .istore_n 3] 13 = true := by decide +kernel
theorem kX0_isOccupied_13 : am_dec cX0_isOccupied 13 [.iload_n 3, .aload_n 0] 15 = true := by decide +kernel
theorem kX0_isOccupied_21 : am_dec cX0_isOccupied 21 [.aload_n 0, .iload_n 3] 23 = true := by decide +kernel
theorem kX0_isOccupied_26 : am_dec cX0_isOccupied 26 [.iload_n 1, .iload_n 2] 28 = true := by decide +kernel
theorem kX0_isOccupied_34 : am_dec cX0_isOccupied 34 [.iconst 1] 35 = true := by decide +kernel
theorem kX0_isOccupied_36 : am_dec cX0_isOccupied 36 [.iinc 3 1] 39 = true := by decide +kernel
theorem kX0_isOccupied_42 : am_dec cX0_isOccupied 42 [.iconst 0] 43 = true := by decide +kernel
theorem eX0_isOccupied_3 : decode cX0_isOccupied 3 = .ok (.invokevirtual 100, 3) := by decide +kernel
theorem eX0_isOccupied_6 : decode cX0_isOccupied 6 = .ok (.ifCond .eq 5, 3) := by decide +kernel
theorem eX0_isOccupied_10 : decode cX0_isOccupied 10 = .ok (.ireturn, 1) := by decide +kernel
theorem eX0_isOccupied_15 : decode cX0_isOccupied 15 = .ok (.getfield 41, 3) := by decide +kernel
theorem eX0_isOccupied_18 : decode cX0_isOccupied 18 = .ok (.if_icmp .ge 24, 3) := by decide +kernel
theorem eX0_isOccupied_23 : decode cX0_isOccupied 23 = .ok (.invokevirtual 56, 3) := by decide +kernel
theorem eX0_isOccupied_28 : decode cX0_isOccupied 28 = .ok (.invokevirtual 103, 3) := by decide +kernel
theorem eX0_isOccupied_31 : decode cX0_isOccupied 31 = .ok (.ifCond .eq 5, 3) := by decide +kernel
theorem eX0_isOccupied_35 : decode cX0_isOccupied 35 = .ok (.ireturn, 1) := by decide +kernel
theorem eX0_isOccupied_39 : decode cX0_isOccupied 39 = .ok (.goto (-26), 3) := by decide +kernel
theorem eX0_isOccupied_43 : decode cX0_isOccupied 43 = .ok (.ireturn, 1) := by decide +kernel
theorem kX1_turn_0 : am_dec cX1_turn 0 [.iload_n 2, .iload_n 0, .isub, .iload 5, .iload_n 1, .isub, .imul, .iload_n 3, .iload_n 1, .isub, .iload 4, .iload_n 0, .isub, .imul, .isub] 17 = true := by decide +kernel
theorem eX1_turn_17 : decode cX1_turn 17 = .ok (.ireturn, 1) := by decide +kernel
theorem kX1_isOnSegment_0 : am_dec cX1_isOnSegment 0 [.iload_n 0, .iload 4, .isub, .iload_n 2, .iload 4, .isub, .imul, .iload_n 1, .iload 5, .isub, .iload_n 3, .iload 5, .isub, .imul, .iadd] 19 = true := by decide +kernel
theorem kX1_isOnSegment_22 : am_dec cX1_isOnSegment 22 [.iconst 1] 23 = true := by decide +kernel
theorem kX1_isOnSegment_26 : am_dec cX1_isOnSegment 26 [.iconst 0] 27 = true := by decide +kernel
theorem kX1_isOnSegment_27 : am_dec cX1_isOnSegment 27 [.istore 6, .iload 6] 31 = true := by decide +kernel
theorem kX1_isOnSegment_34 : am_dec cX1_isOnSegment 34 [.iload_n 2, .iload_n 0, .isub, .iload 5, .iload_n 1, .isub, .imul, .iload_n 3, .iload_n 1, .isub, .iload 4, .iload_n 0, .isub, .imul] 50 = true := by decide +kernel
theorem kX1_isOnSegment_53 : am_dec cX1_isOnSegment 53 [.iconst 1] 54 = true := by decide +kernel
theorem kX1_isOnSegment_57 : am_dec cX1_isOnSegment 57 [.iconst 0] 58 = true := by decide +kernel
theorem eX1_isOnSegment_19 : decode cX1_isOnSegment 19 = .ok (.ifCond .gt 7, 3) := by decide +kernel
theorem eX1_isOnSegment_23 : decode cX1_isOnSegment 23 = .ok (.goto 4, 3) := by decide +kernel
theorem eX1_isOnSegment_31 : decode cX1_isOnSegment 31 = .ok (.ifCond .eq 26, 3) := by decide +kernel
theorem eX1_isOnSegment_50 : decode cX1_isOnSegment 50 = .ok (.if_icmp .ne 7, 3) := by decide +kernel
theorem eX1_isOnSegment_54 : decode cX1_isOnSegment 54 = .ok (.goto 4, 3) := by decide +kernel
theorem eX1_isOnSegment_58 : decode cX1_isOnSegment 58 = .ok (.ireturn, 1) := by decide +kernel
theorem kX1_steps_0 : am_dec cX1_steps 0 [.iload_n 0] 1 = true := by decide +kernel
theorem kX1_steps_4 : am_dec cX1_steps 4 [.istore_n 2, .iload_n 1] 6 = true := by decide +kernel
theorem kX1_steps_9 : am_dec cX1_steps 9 [.istore_n 3, .iconst 0, .istore 4] 13 = true := by decide +kernel
theorem kX1_steps_13 : am_dec cX1_steps 13 [.iload 4, .bipush 30] 17 = true := by decide +kernel
theorem kX1_steps_20 : am_dec cX1_steps 20 [.iload_n 3] 21 = true := by decide +kernel
theorem kX1_steps_24 : am_dec cX1_steps 24 [.iload_n 2, .iload_n 3] 26 = true := by decide +kernel
theorem kX1_steps_27 : am_dec cX1_steps 27 [.istore 5, .iload_n 3, .istore_n 2, .iload 5, .istore_n 3, .iinc 4 1] 37 = true := by decide +kernel
theorem kX1_steps_40 : am_dec cX1_steps 40 [.iload_n 2] 41 = true := by decide +kernel
theorem eX1_steps_1 : decode cX1_steps 1 = .ok (.invokestatic 9, 3) := by decide +kernel
theorem eX1_steps_6 : decode cX1_steps 6 = .ok (.invokestatic 9, 3) := by decide +kernel
theorem eX1_steps_17 : decode cX1_steps 17 = .ok (.if_icmp .gt 23, 3) := by decide +kernel
theorem eX1_steps_21 : decode cX1_steps 21 = .ok (.ifCond .eq 19, 3) := by decide +kernel
theorem eX1_steps_26 : decode cX1_steps 26 = .ok (.irem, 1) := by decide +kernel
theorem eX1_steps_37 : decode cX1_steps 37 = .ok (.goto (-24), 3) := by decide +kernel
theorem eX1_steps_41 : decode cX1_steps 41 = .ok (.ireturn, 1) := by decide +kernel
theorem kX2_init_0 : am_dec cX2_init 0 [.aload_n 0] 1 = true := by decide +kernel
theorem kX2_init_4 : am_dec cX2_init 4 [.aload_n 0, .bipush 8] 7 = true := by decide +kernel
theorem kX2_init_13 : am_dec cX2_init 13 [.aload_n 0, .iconst 0] 15 = true := by decide +kernel
theorem kX2_init_18 : am_dec cX2_init 18 [.aload_n 0, .iconst 0] 20 = true := by decide +kernel
theorem kX2_init_23 : am_dec cX2_init 23 [.iconst 0, .istore_n 1] 25 = true := by decide +kernel
theorem kX2_init_25 : am_dec cX2_init 25 [.iload_n 1, .bipush 8] 28 = true := by decide +kernel
theorem kX2_init_31 : am_dec cX2_init 31 [.aload_n 0] 32 = true := by decide +kernel
theorem kX2_init_35 : am_dec cX2_init 35 [.iload_n 1] 36 = true := by decide +kernel
theorem kX2_init_39 : am_dec cX2_init 39 [.dup] 40 = true := by decide +kernel
theorem kX2_init_44 : am_dec cX2_init 44 [.iinc 1 1] 47 = true := by decide +kernel
theorem eX2_init_1 : decode cX2_init 1 = .ok (.invokespecial 3, 3) := by decide +kernel
theorem eX2_init_7 : decode cX2_init 7 = .ok (.anewarray 9, 3) := by decide +kernel
theorem eX2_init_10 : decode cX2_init 10 = .ok (.putfield 11, 3) := by decide +kernel
theorem eX2_init_15 : decode cX2_init 15 = .ok (.putfield 17, 3) := by decide +kernel
theorem eX2_init_20 : decode cX2_init 20 = .ok (.putfield 21, 3) := by decide +kernel
theorem eX2_init_28 : decode cX2_init 28 = .ok (.if_icmp .ge 22, 3) := by decide +kernel
theorem eX2_init_32 : decode cX2_init 32 = .ok (.getfield 11, 3) := by decide +kernel
theorem eX2_init_36 : decode cX2_init 36 = .ok (.new 9, 3) := by decide +kernel
theorem eX2_init_40 : decode cX2_init 40 = .ok (.invokespecial 24, 3) := by decide +kernel
theorem eX2_init_43 : decode cX2_init 43 = .ok (.aastore, 1) := by decide +kernel
theorem eX2_init_47 : decode cX2_init 47 = .ok (.goto (-22), 3) := by decide +kernel
theorem eX2_init_50 : decode cX2_init 50 = .ok (.return_, 1) := by decide +kernel
theorem kX2_save_0 : am_dec cX2_save 0 [.aload_n 0] 1 = true := by decide +kernel
theorem kX2_save_7 : am_dec cX2_save 7 [.aload_n 0] 8 = true := by decide +kernel
theorem kX2_save_11 : am_dec cX2_save 11 [.bipush 8] 13 = true := by decide +kernel
theorem kX2_save_16 : am_dec cX2_save 16 [.aload_n 0] 17 = true := by decide +kernel
theorem kX2_save_20 : am_dec cX2_save 20 [.aload_n 0] 21 = true := by decide +kernel
theorem kX2_save_25 : am_dec cX2_save 25 [.aload_n 1] 26 = true := by decide +kernel
theorem kX2_save_29 : am_dec cX2_save 29 [.aload_n 0, .aload_n 0] 31 = true := by decide +kernel
theorem kX2_save_34 : am_dec cX2_save 34 [.iconst 1, .iadd, .bipush 8] 38 = true := by decide +kernel
theorem kX2_save_41 : am_dec cX2_save 41 [.aload_n 0] 42 = true := by decide +kernel
theorem kX2_save_45 : am_dec cX2_save 45 [.iconst 1, .iadd] 47 = true := by decide +kernel
theorem kX2_save_50 : am_dec cX2_save 50 [.iconst 0] 51 = true := by decide +kernel
theorem kX2_save_54 : am_dec cX2_save 54 [.aload_n 0, .aload_n 0] 56 = true := by decide +kernel
theorem kX2_save_59 : am_dec cX2_save 59 [.iconst 1, .iadd, .bipush 8] 63 = true := by decide +kernel
theorem eX2_save_1 : decode cX2_save 1 = .ok (.getfield 17, 3) := by decide +kernel
theorem eX2_save_4 : decode cX2_save 4 = .ok (.ifCond .lt 25, 3) := by decide +kernel
theorem eX2_save_8 : decode cX2_save 8 = .ok (.getfield 17, 3) := by decide +kernel
theorem eX2_save_13 : decode cX2_save 13 = .ok (.if_icmp .ge 16, 3) := by decide +kernel
theorem eX2_save_17 : decode cX2_save 17 = .ok (.getfield 11, 3) := by decide +kernel
theorem eX2_save_21 : decode cX2_save 21 = .ok (.getfield 17, 3) := by decide +kernel
theorem eX2_save_24 : decode cX2_save 24 = .ok (.aaload, 1) := by decide +kernel
theorem eX2_save_26 : decode cX2_save 26 = .ok (.invokevirtual 25, 3) := by decide +kernel
theorem eX2_save_31 : decode cX2_save 31 = .ok (.getfield 17, 3) := by decide +kernel
theorem eX2_save_38 : decode cX2_save 38 = .ok (.if_icmp .ge 12, 3) := by decide +kernel
theorem eX2_save_42 : decode cX2_save 42 = .ok (.getfield 17, 3) := by decide +kernel
theorem eX2_save_47 : decode cX2_save 47 = .ok (.goto 4, 3) := by decide +kernel
theorem eX2_save_51 : decode cX2_save 51 = .ok (.putfield 17, 3) := by decide +kernel
theorem eX2_save_56 : decode cX2_save 56 = .ok (.getfield 21, 3) := by decide +kernel
theorem eX2_save_63 : decode cX2_save 63 = .ok (.invokestatic 29, 3) := by decide +kernel
theorem eX2_save_66 : decode cX2_save 66 = .ok (.putfield 21, 3) := by decide +kernel
theorem eX2_save_69 : decode cX2_save 69 = .ok (.return_, 1) := by decide +kernel
theorem kX2_restore_0 : am_dec cX2_restore 0 [.aload_n 0] 1 = true := by decide +kernel
theorem kX2_restore_7 : am_dec cX2_restore 7 [.iconst (-1)] 8 = true := by decide +kernel
theorem kX2_restore_9 : am_dec cX2_restore 9 [.aload_n 0, .aload_n 0] 11 = true := by decide +kernel
theorem kX2_restore_17 : am_dec cX2_restore 17 [.aload_n 0] 18 = true := by decide +kernel
theorem kX2_restore_21 : am_dec cX2_restore 21 [.iconst 1, .isub] 23 = true := by decide +kernel
theorem kX2_restore_26 : am_dec cX2_restore 26 [.bipush 7] 28 = true := by decide +kernel
theorem kX2_restore_31 : am_dec cX2_restore 31 [.aload_n 0] 32 = true := by decide +kernel
theorem kX2_restore_38 : am_dec cX2_restore 38 [.aload_n 0] 39 = true := by decide +kernel
theorem kX2_restore_42 : am_dec cX2_restore 42 [.bipush 8] 44 = true := by decide +kernel
theorem kX2_restore_47 : am_dec cX2_restore 47 [.aload_n 1, .aload_n 0] 49 = true := by decide +kernel
theorem kX2_restore_52 : am_dec cX2_restore 52 [.aload_n 0] 53 = true := by decide +kernel
theorem kX2_restore_60 : am_dec cX2_restore 60 [.aload_n 0, .dup] 62 = true := by decide +kernel
theorem kX2_restore_65 : am_dec cX2_restore 65 [.iconst 1, .isub] 67 = true := by decide +kernel
theorem kX2_restore_70 : am_dec cX2_restore 70 [.aload_n 0] 71 = true := by decide +kernel
theorem eX2_restore_1 : decode cX2_restore 1 = .ok (.getfield 21, 3) := by decide +kernel
theorem eX2_restore_4 : decode cX2_restore 4 = .ok (.ifCond .ne 5, 3) := by decide +kernel
theorem eX2_restore_8 : decode cX2_restore 8 = .ok (.ireturn, 1) := by decide +kernel
theorem eX2_restore_11 : decode cX2_restore 11 = .ok (.getfield 17, 3) := by decide +kernel
theorem eX2_restore_14 : decode cX2_restore 14 = .ok (.ifCond .le 12, 3) := by decide +kernel
theorem eX2_restore_18 : decode cX2_restore 18 = .ok (.getfield 17, 3) := by decide +kernel
theorem eX2_restore_23 : decode cX2_restore 23 = .ok (.goto 5, 3) := by decide +kernel
theorem eX2_restore_28 : decode cX2_restore 28 = .ok (.putfield 17, 3) := by decide +kernel
theorem eX2_restore_32 : decode cX2_restore 32 = .ok (.getfield 17, 3) := by decide +kernel
theorem eX2_restore_35 : decode cX2_restore 35 = .ok (.ifCond .lt 25, 3) := by decide +kernel
theorem eX2_restore_39 : decode cX2_restore 39 = .ok (.getfield 17, 3) := by decide +kernel
theorem eX2_restore_44 : decode cX2_restore 44 = .ok (.if_icmp .ge 16, 3) := by decide +kernel
theorem eX2_restore_49 : decode cX2_restore 49 = .ok (.getfield 11, 3) := by decide +kernel
theorem eX2_restore_53 : decode cX2_restore 53 = .ok (.getfield 17, 3) := by decide +kernel
theorem eX2_restore_56 : decode cX2_restore 56 = .ok (.aaload, 1) := by decide +kernel
theorem eX2_restore_57 : decode cX2_restore 57 = .ok (.invokevirtual 25, 3) := by decide +kernel
theorem eX2_restore_62 : decode cX2_restore 62 = .ok (.getfield 21, 3) := by decide +kernel
theorem eX2_restore_67 : decode cX2_restore 67 = .ok (.putfield 21, 3) := by decide +kernel
theorem eX2_restore_71 : decode cX2_restore 71 = .ok (.getfield 21, 3) := by decide +kernel
theorem eX2_restore_74 : decode cX2_restore 74 = .ok (.ireturn, 1) := by decide +kernel
theorem kX3_init_0 : am_dec cX3_init 0 [.aload_n 0] 1 = true := by decide +kernel
theorem kX3_init_4 : am_dec cX3_init 4 [.aload_n 0] 5 = true := by decide +kernel
theorem kX3_init_8 : am_dec cX3_init 8 [.dup] 9 = true := by decide +kernel
theorem kX3_init_15 : am_dec cX3_init 15 [.aload_n 0, .aload_n 1] 17 = true := by decide +kernel
theorem eX3_init_1 : decode cX3_init 1 = .ok (.invokespecial 3, 3) := by decide +kernel
theorem eX3_init_5 : decode cX3_init 5 = .ok (.new 9, 3) := by decide +kernel
theorem eX3_init_9 : decode cX3_init 9 = .ok (.invokespecial 11, 3) := by decide +kernel
theorem eX3_init_12 : decode cX3_init 12 = .ok (.putfield 12, 3) := by decide +kernel
theorem eX3_init_17 : decode cX3_init 17 = .ok (.putfield 18, 3) := by decide +kernel
theorem eX3_init_20 : decode cX3_init 20 = .ok (.return_, 1) := by decide +kernel
theorem kX3_reasonOfCorner_0 : am_dec cX3_reasonOfCorner 0 [.aload_n 0] 1 = true := by decide +kernel
theorem kX3_reasonOfCorner_4 : am_dec cX3_reasonOfCorner 4 [.iload_n 1] 5 = true := by decide +kernel
theorem kX3_reasonOfCorner_8 : am_dec cX3_reasonOfCorner 8 [.astore 4, .aload 4] 12 = true := by decide +kernel
theorem kX3_reasonOfCorner_18 : am_dec cX3_reasonOfCorner 18 [.iconst 1] 19 = true := by decide +kernel
theorem kX3_reasonOfCorner_20 : am_dec cX3_reasonOfCorner 20 [.aload 4] 22 = true := by decide +kernel
theorem kX3_reasonOfCorner_25 : am_dec cX3_reasonOfCorner 25 [.bipush 12] 27 = true := by decide +kernel
theorem kX3_reasonOfCorner_30 : am_dec cX3_reasonOfCorner 30 [.iconst 2] 31 = true := by decide +kernel
theorem kX3_reasonOfCorner_32 : am_dec cX3_reasonOfCorner 32 [.aload_n 0] 33 = true := by decide +kernel
theorem kX3_reasonOfCorner_36 : am_dec cX3_reasonOfCorner 36 [.iload_n 2, .iload_n 3] 38 = true := by decide +kernel
theorem kX3_reasonOfCorner_44 : am_dec cX3_reasonOfCorner 44 [.iconst 3] 45 = true := by decide +kernel
theorem kX3_reasonOfCorner_46 : am_dec cX3_reasonOfCorner 46 [.aload 4] 48 = true := by decide +kernel
theorem kX3_reasonOfCorner_51 : am_dec cX3_reasonOfCorner 51 [.iconst 1, .isub, .istore 5, .aload_n 0] 56 = true := by decide +kernel
theorem kX3_reasonOfCorner_62 : am_dec cX3_reasonOfCorner 62 [.aload_n 0] 63 = true := by decide +kernel
theorem kX3_reasonOfCorner_66 : am_dec cX3_reasonOfCorner 66 [.aload 4, .iload 5] 70 = true := by decide +kernel
theorem kX3_reasonOfCorner_73 : am_dec cX3_reasonOfCorner 73 [.aload 4, .iload 5] 77 = true := by decide +kernel
theorem kX3_reasonOfCorner_80 : am_dec cX3_reasonOfCorner 80 [.iload_n 2, .iload_n 3] 82 = true := by decide +kernel
theorem kX3_reasonOfCorner_85 : am_dec cX3_reasonOfCorner 85 [.aload_n 0] 86 = true := by decide +kernel
theorem eX3_reasonOfCorner_1 : decode cX3_reasonOfCorner 1 = .ok (.getfield 18, 3) := by decide +kernel
theorem eX3_reasonOfCorner_5 : decode cX3_reasonOfCorner 5 = .ok (.invokevirtual 22, 3) := by decide +kernel
theorem eX3_reasonOfCorner_12 : decode cX3_reasonOfCorner 12 = .ok (.getfield 28, 3) := by decide +kernel
theorem eX3_reasonOfCorner_15 : decode cX3_reasonOfCorner 15 = .ok (.ifCond .eq 5, 3) := by decide +kernel
theorem eX3_reasonOfCorner_19 : decode cX3_reasonOfCorner 19 = .ok (.ireturn, 1) := by decide +kernel
theorem eX3_reasonOfCorner_22 : decode cX3_reasonOfCorner 22 = .ok (.getfield 34, 3) := by decide +kernel
theorem eX3_reasonOfCorner_27 : decode cX3_reasonOfCorner 27 = .ok (.if_icmp .lt 5, 3) := by decide +kernel
theorem eX3_reasonOfCorner_31 : decode cX3_reasonOfCorner 31 = .ok (.ireturn, 1) := by decide +kernel
theorem eX3_reasonOfCorner_33 : decode cX3_reasonOfCorner 33 = .ok (.getfield 18, 3) := by decide +kernel
theorem eX3_reasonOfCorner_38 : decode cX3_reasonOfCorner 38 = .ok (.invokevirtual 38, 3) := by decide +kernel
theorem eX3_reasonOfCorner_41 : decode cX3_reasonOfCorner 41 = .ok (.ifCond .eq 5, 3) := by decide +kernel
theorem eX3_reasonOfCorner_45 : decode cX3_reasonOfCorner 45 = .ok (.ireturn, 1) := by decide +kernel
theorem eX3_reasonOfCorner_48 : decode cX3_reasonOfCorner 48 = .ok (.getfield 34, 3) := by decide +kernel
theorem eX3_reasonOfCorner_56 : decode cX3_reasonOfCorner 56 = .ok (.getfield 12, 3) := by decide +kernel
theorem eX3_reasonOfCorner_59 : decode cX3_reasonOfCorner 59 = .ok (.invokevirtual 42, 3) := by decide +kernel
theorem eX3_reasonOfCorner_63 : decode cX3_reasonOfCorner 63 = .ok (.getfield 12, 3) := by decide +kernel
theorem eX3_reasonOfCorner_70 : decode cX3_reasonOfCorner 70 = .ok (.invokevirtual 45, 3) := by decide +kernel
theorem eX3_reasonOfCorner_77 : decode cX3_reasonOfCorner 77 = .ok (.invokevirtual 49, 3) := by decide +kernel
theorem eX3_reasonOfCorner_82 : decode cX3_reasonOfCorner 82 = .ok (.invokevirtual 52, 3) := by decide +kernel
theorem eX3_reasonOfCorner_86 : decode cX3_reasonOfCorner 86 = .ok (.invokevirtual 56, 3) := by decide +kernel
theorem eX3_reasonOfCorner_89 : decode cX3_reasonOfCorner 89 = .ok (.ireturn, 1) := by decide +kernel
theorem kX3_reasonOfClosing_0 : am_dec cX3_reasonOfClosing 0 [.aload_n 0] 1 = true := by decide +kernel
theorem kX3_reasonOfClosing_4 : am_dec cX3_reasonOfClosing 4 [.iload_n 1] 5 = true := by decide +kernel
theorem kX3_reasonOfClosing_8 : am_dec cX3_reasonOfClosing 8 [.astore_n 2, .aload_n 2] 10 = true := by decide +kernel
theorem kX3_reasonOfClosing_16 : am_dec cX3_reasonOfClosing 16 [.iconst 1] 17 = true := by decide +kernel
theorem kX3_reasonOfClosing_18 : am_dec cX3_reasonOfClosing 18 [.aload_n 2] 19 = true := by decide +kernel
theorem kX3_reasonOfClosing_22 : am_dec cX3_reasonOfClosing 22 [.iconst 3] 23 = true := by decide +kernel
theorem kX3_reasonOfClosing_26 : am_dec cX3_reasonOfClosing 26 [.bipush 6] 28 = true := by decide +kernel
theorem kX3_reasonOfClosing_29 : am_dec cX3_reasonOfClosing 29 [.aload_n 2] 30 = true := by decide +kernel
theorem kX3_reasonOfClosing_33 : am_dec cX3_reasonOfClosing 33 [.iconst 1, .isub, .istore_n 3, .aload_n 0] 37 = true := by decide +kernel
theorem kX3_reasonOfClosing_43 : am_dec cX3_reasonOfClosing 43 [.aload_n 0] 44 = true := by decide +kernel
theorem kX3_reasonOfClosing_47 : am_dec cX3_reasonOfClosing 47 [.aload_n 2, .iload_n 3] 49 = true := by decide +kernel
theorem kX3_reasonOfClosing_52 : am_dec cX3_reasonOfClosing 52 [.aload_n 2, .iload_n 3] 54 = true := by decide +kernel
theorem kX3_reasonOfClosing_57 : am_dec cX3_reasonOfClosing 57 [.aload_n 2, .iconst 0] 59 = true := by decide +kernel
theorem kX3_reasonOfClosing_62 : am_dec cX3_reasonOfClosing 62 [.aload_n 2, .iconst 0] 64 = true := by decide +kernel
theorem kX3_reasonOfClosing_70 : am_dec cX3_reasonOfClosing 70 [.aload_n 0] 71 = true := by decide +kernel
theorem eX3_reasonOfClosing_1 : decode cX3_reasonOfClosing 1 = .ok (.getfield 18, 3) := by decide +kernel
theorem eX3_reasonOfClosing_5 : decode cX3_reasonOfClosing 5 = .ok (.invokevirtual 22, 3) := by decide +kernel
theorem eX3_reasonOfClosing_10 : decode cX3_reasonOfClosing 10 = .ok (.getfield 28, 3) := by decide +kernel
theorem eX3_reasonOfClosing_13 : decode cX3_reasonOfClosing 13 = .ok (.ifCond .eq 5, 3) := by decide +kernel
theorem eX3_reasonOfClosing_17 : decode cX3_reasonOfClosing 17 = .ok (.ireturn, 1) := by decide +kernel
theorem eX3_reasonOfClosing_19 : decode cX3_reasonOfClosing 19 = .ok (.getfield 34, 3) := by decide +kernel
theorem eX3_reasonOfClosing_23 : decode cX3_reasonOfClosing 23 = .ok (.if_icmp .ge 6, 3) := by decide +kernel
theorem eX3_reasonOfClosing_28 : decode cX3_reasonOfClosing 28 = .ok (.ireturn, 1) := by decide +kernel
theorem eX3_reasonOfClosing_30 : decode cX3_reasonOfClosing 30 = .ok (.getfield 34, 3) := by decide +kernel
theorem eX3_reasonOfClosing_37 : decode cX3_reasonOfClosing 37 = .ok (.getfield 12, 3) := by decide +kernel
theorem eX3_reasonOfClosing_40 : decode cX3_reasonOfClosing 40 = .ok (.invokevirtual 42, 3) := by decide +kernel
theorem eX3_reasonOfClosing_44 : decode cX3_reasonOfClosing 44 = .ok (.getfield 12, 3) := by decide +kernel
theorem eX3_reasonOfClosing_49 : decode cX3_reasonOfClosing 49 = .ok (.invokevirtual 45, 3) := by decide +kernel
theorem eX3_reasonOfClosing_54 : decode cX3_reasonOfClosing 54 = .ok (.invokevirtual 49, 3) := by decide +kernel
theorem eX3_reasonOfClosing_59 : decode cX3_reasonOfClosing 59 = .ok (.invokevirtual 45, 3) := by decide +kernel
theorem eX3_reasonOfClosing_64 : decode cX3_reasonOfClosing 64 = .ok (.invokevirtual 49, 3) := by decide +kernel
theorem eX3_reasonOfClosing_67 : decode cX3_reasonOfClosing 67 = .ok (.invokevirtual 52, 3) := by decide +kernel
theorem eX3_reasonOfClosing_71 : decode cX3_reasonOfClosing 71 = .ok (.invokevirtual 56, 3) := by decide +kernel
theorem eX3_reasonOfClosing_74 : decode cX3_reasonOfClosing 74 = .ok (.ireturn, 1) := by decide +kernel
theorem kX3_reasonOfBend_0 : am_dec cX3_reasonOfBend 0 [.aload_n 0] 1 = true := by decide +kernel
theorem kX3_reasonOfBend_4 : am_dec cX3_reasonOfBend 4 [.iload_n 1] 5 = true := by decide +kernel
theorem kX3_reasonOfBend_8 : am_dec cX3_reasonOfBend 8 [.astore 5, .aload 5] 12 = true := by decide +kernel
theorem kX3_reasonOfBend_18 : am_dec cX3_reasonOfBend 18 [.iconst 1] 19 = true := by decide +kernel
theorem kX3_reasonOfBend_20 : am_dec cX3_reasonOfBend 20 [.aload 5] 22 = true := by decide +kernel
theorem kX3_reasonOfBend_25 : am_dec cX3_reasonOfBend 25 [.bipush 12] 27 = true := by decide +kernel
theorem kX3_reasonOfBend_30 : am_dec cX3_reasonOfBend 30 [.iconst 2] 31 = true := by decide +kernel
theorem kX3_reasonOfBend_32 : am_dec cX3_reasonOfBend 32 [.aload_n 0] 33 = true := by decide +kernel
theorem kX3_reasonOfBend_36 : am_dec cX3_reasonOfBend 36 [.iload_n 3, .iload 4] 39 = true := by decide +kernel
theorem kX3_reasonOfBend_45 : am_dec cX3_reasonOfBend 45 [.iconst 3] 46 = true := by decide +kernel
theorem kX3_reasonOfBend_47 : am_dec cX3_reasonOfBend 47 [.aload_n 0] 48 = true := by decide +kernel
theorem kX3_reasonOfBend_51 : am_dec cX3_reasonOfBend 51 [.iload_n 1, .iconst (-1), .iload_n 2, .iconst (-1)] 55 = true := by decide +kernel
theorem kX3_reasonOfBend_58 : am_dec cX3_reasonOfBend 58 [.aload_n 0] 59 = true := by decide +kernel
theorem kX3_reasonOfBend_62 : am_dec cX3_reasonOfBend 62 [.aload 5, .iload_n 2] 65 = true := by decide +kernel
theorem kX3_reasonOfBend_68 : am_dec cX3_reasonOfBend 68 [.aload 5, .iload_n 2] 71 = true := by decide +kernel
theorem kX3_reasonOfBend_74 : am_dec cX3_reasonOfBend 74 [.iload_n 3, .iload 4] 77 = true := by decide +kernel
theorem kX3_reasonOfBend_80 : am_dec cX3_reasonOfBend 80 [.aload_n 0] 81 = true := by decide +kernel
theorem kX3_reasonOfBend_84 : am_dec cX3_reasonOfBend 84 [.istore 6, .iload 6] 88 = true := by decide +kernel
theorem kX3_reasonOfBend_91 : am_dec cX3_reasonOfBend 91 [.iload 6] 93 = true := by decide +kernel
theorem kX3_reasonOfBend_94 : am_dec cX3_reasonOfBend 94 [.aload 5, .iload_n 2] 97 = true := by decide +kernel
theorem kX3_reasonOfBend_100 : am_dec cX3_reasonOfBend 100 [.istore 7, .aload_n 0] 103 = true := by decide +kernel
theorem kX3_reasonOfBend_106 : am_dec cX3_reasonOfBend 106 [.aload 5, .iload 7] 110 = true := by decide +kernel
theorem kX3_reasonOfBend_113 : am_dec cX3_reasonOfBend 113 [.aload 5, .iload 7] 117 = true := by decide +kernel
theorem kX3_reasonOfBend_120 : am_dec cX3_reasonOfBend 120 [.iload_n 3, .iload 4] 123 = true := by decide +kernel
theorem kX3_reasonOfBend_126 : am_dec cX3_reasonOfBend 126 [.aload_n 0] 127 = true := by decide +kernel
theorem eX3_reasonOfBend_1 : decode cX3_reasonOfBend 1 = .ok (.getfield 18, 3) := by decide +kernel
theorem eX3_reasonOfBend_5 : decode cX3_reasonOfBend 5 = .ok (.invokevirtual 22, 3) := by decide +kernel
theorem eX3_reasonOfBend_12 : decode cX3_reasonOfBend 12 = .ok (.getfield 28, 3) := by decide +kernel
theorem eX3_reasonOfBend_15 : decode cX3_reasonOfBend 15 = .ok (.ifCond .ne 5, 3) := by decide +kernel
theorem eX3_reasonOfBend_19 : decode cX3_reasonOfBend 19 = .ok (.ireturn, 1) := by decide +kernel
theorem eX3_reasonOfBend_22 : decode cX3_reasonOfBend 22 = .ok (.getfield 34, 3) := by decide +kernel
theorem eX3_reasonOfBend_27 : decode cX3_reasonOfBend 27 = .ok (.if_icmp .lt 5, 3) := by decide +kernel
theorem eX3_reasonOfBend_31 : decode cX3_reasonOfBend 31 = .ok (.ireturn, 1) := by decide +kernel
theorem eX3_reasonOfBend_33 : decode cX3_reasonOfBend 33 = .ok (.getfield 18, 3) := by decide +kernel
theorem eX3_reasonOfBend_39 : decode cX3_reasonOfBend 39 = .ok (.invokevirtual 38, 3) := by decide +kernel
theorem eX3_reasonOfBend_42 : decode cX3_reasonOfBend 42 = .ok (.ifCond .eq 5, 3) := by decide +kernel
theorem eX3_reasonOfBend_46 : decode cX3_reasonOfBend 46 = .ok (.ireturn, 1) := by decide +kernel
theorem eX3_reasonOfBend_48 : decode cX3_reasonOfBend 48 = .ok (.getfield 12, 3) := by decide +kernel
theorem eX3_reasonOfBend_55 : decode cX3_reasonOfBend 55 = .ok (.invokevirtual 60, 3) := by decide +kernel
theorem eX3_reasonOfBend_59 : decode cX3_reasonOfBend 59 = .ok (.getfield 12, 3) := by decide +kernel
theorem eX3_reasonOfBend_65 : decode cX3_reasonOfBend 65 = .ok (.invokevirtual 45, 3) := by decide +kernel
theorem eX3_reasonOfBend_71 : decode cX3_reasonOfBend 71 = .ok (.invokevirtual 49, 3) := by decide +kernel
theorem eX3_reasonOfBend_77 : decode cX3_reasonOfBend 77 = .ok (.invokevirtual 52, 3) := by decide +kernel
theorem eX3_reasonOfBend_81 : decode cX3_reasonOfBend 81 = .ok (.invokevirtual 56, 3) := by decide +kernel
theorem eX3_reasonOfBend_88 : decode cX3_reasonOfBend 88 = .ok (.ifCond .eq 6, 3) := by decide +kernel
theorem eX3_reasonOfBend_93 : decode cX3_reasonOfBend 93 = .ok (.ireturn, 1) := by decide +kernel
theorem eX3_reasonOfBend_97 : decode cX3_reasonOfBend 97 = .ok (.invokevirtual 63, 3) := by decide +kernel
theorem eX3_reasonOfBend_103 : decode cX3_reasonOfBend 103 = .ok (.getfield 12, 3) := by decide +kernel
theorem eX3_reasonOfBend_110 : decode cX3_reasonOfBend 110 = .ok (.invokevirtual 45, 3) := by decide +kernel
theorem eX3_reasonOfBend_117 : decode cX3_reasonOfBend 117 = .ok (.invokevirtual 49, 3) := by decide +kernel
theorem eX3_reasonOfBend_123 : decode cX3_reasonOfBend 123 = .ok (.invokevirtual 52, 3) := by decide +kernel
theorem eX3_reasonOfBend_127 : decode cX3_reasonOfBend 127 = .ok (.invokevirtual 56, 3) := by decide +kernel
theorem eX3_reasonOfBend_130 : decode cX3_reasonOfBend 130 = .ok (.ireturn, 1) := by decide +kernel
theorem kX3_reasonOfTakingOut_0 : am_dec cX3_reasonOfTakingOut 0 [.aload_n 0] 1 = true := by decide +kernel
theorem kX3_reasonOfTakingOut_4 : am_dec cX3_reasonOfTakingOut 4 [.iload_n 1] 5 = true := by decide +kernel
theorem kX3_reasonOfTakingOut_8 : am_dec cX3_reasonOfTakingOut 8 [.astore_n 3, .aload_n 3] 10 = true := by decide +kernel
theorem kX3_reasonOfTakingOut_16 : am_dec cX3_reasonOfTakingOut 16 [.iconst 1] 17 = true := by decide +kernel
theorem kX3_reasonOfTakingOut_18 : am_dec cX3_reasonOfTakingOut 18 [.aload_n 3] 19 = true := by decide +kernel
theorem kX3_reasonOfTakingOut_22 : am_dec cX3_reasonOfTakingOut 22 [.iconst 3] 23 = true := by decide +kernel
theorem kX3_reasonOfTakingOut_26 : am_dec cX3_reasonOfTakingOut 26 [.bipush 6] 28 = true := by decide +kernel
theorem kX3_reasonOfTakingOut_29 : am_dec cX3_reasonOfTakingOut 29 [.aload_n 3, .iload_n 2] 31 = true := by decide +kernel
theorem kX3_reasonOfTakingOut_34 : am_dec cX3_reasonOfTakingOut 34 [.istore 4, .aload_n 3, .iload_n 2] 38 = true := by decide +kernel
theorem kX3_reasonOfTakingOut_41 : am_dec cX3_reasonOfTakingOut 41 [.istore 5, .aload_n 0] 44 = true := by decide +kernel
theorem kX3_reasonOfTakingOut_47 : am_dec cX3_reasonOfTakingOut 47 [.iload_n 1, .iload_n 2, .iload 4, .iload_n 2] 52 = true := by decide +kernel
theorem kX3_reasonOfTakingOut_55 : am_dec cX3_reasonOfTakingOut 55 [.aload_n 0] 56 = true := by decide +kernel
theorem kX3_reasonOfTakingOut_59 : am_dec cX3_reasonOfTakingOut 59 [.aload_n 3, .iload 4] 62 = true := by decide +kernel
theorem kX3_reasonOfTakingOut_65 : am_dec cX3_reasonOfTakingOut 65 [.aload_n 3, .iload 4] 68 = true := by decide +kernel
theorem kX3_reasonOfTakingOut_71 : am_dec cX3_reasonOfTakingOut 71 [.aload_n 3, .iload 5] 74 = true := by decide +kernel
theorem kX3_reasonOfTakingOut_77 : am_dec cX3_reasonOfTakingOut 77 [.aload_n 3, .iload 5] 80 = true := by decide +kernel
theorem kX3_reasonOfTakingOut_86 : am_dec cX3_reasonOfTakingOut 86 [.aload_n 0] 87 = true := by decide +kernel
theorem eX3_reasonOfTakingOut_1 : decode cX3_reasonOfTakingOut 1 = .ok (.getfield 18, 3) := by decide +kernel
theorem eX3_reasonOfTakingOut_5 : decode cX3_reasonOfTakingOut 5 = .ok (.invokevirtual 22, 3) := by decide +kernel
theorem eX3_reasonOfTakingOut_10 : decode cX3_reasonOfTakingOut 10 = .ok (.getfield 28, 3) := by decide +kernel
theorem eX3_reasonOfTakingOut_13 : decode cX3_reasonOfTakingOut 13 = .ok (.ifCond .ne 5, 3) := by decide +kernel
theorem eX3_reasonOfTakingOut_17 : decode cX3_reasonOfTakingOut 17 = .ok (.ireturn, 1) := by decide +kernel
theorem eX3_reasonOfTakingOut_19 : decode cX3_reasonOfTakingOut 19 = .ok (.getfield 34, 3) := by decide +kernel
theorem eX3_reasonOfTakingOut_23 : decode cX3_reasonOfTakingOut 23 = .ok (.if_icmp .gt 6, 3) := by decide +kernel
theorem eX3_reasonOfTakingOut_28 : decode cX3_reasonOfTakingOut 28 = .ok (.ireturn, 1) := by decide +kernel
theorem eX3_reasonOfTakingOut_31 : decode cX3_reasonOfTakingOut 31 = .ok (.invokevirtual 66, 3) := by decide +kernel
theorem eX3_reasonOfTakingOut_38 : decode cX3_reasonOfTakingOut 38 = .ok (.invokevirtual 63, 3) := by decide +kernel
theorem eX3_reasonOfTakingOut_44 : decode cX3_reasonOfTakingOut 44 = .ok (.getfield 12, 3) := by decide +kernel
theorem eX3_reasonOfTakingOut_52 : decode cX3_reasonOfTakingOut 52 = .ok (.invokevirtual 60, 3) := by decide +kernel
theorem eX3_reasonOfTakingOut_56 : decode cX3_reasonOfTakingOut 56 = .ok (.getfield 12, 3) := by decide +kernel
theorem eX3_reasonOfTakingOut_62 : decode cX3_reasonOfTakingOut 62 = .ok (.invokevirtual 45, 3) := by decide +kernel
theorem eX3_reasonOfTakingOut_68 : decode cX3_reasonOfTakingOut 68 = .ok (.invokevirtual 49, 3) := by decide +kernel
theorem eX3_reasonOfTakingOut_74 : decode cX3_reasonOfTakingOut 74 = .ok (.invokevirtual 45, 3) := by decide +kernel
theorem eX3_reasonOfTakingOut_80 : decode cX3_reasonOfTakingOut 80 = .ok (.invokevirtual 49, 3) := by decide +kernel
theorem eX3_reasonOfTakingOut_83 : decode cX3_reasonOfTakingOut 83 = .ok (.invokevirtual 52, 3) := by decide +kernel
theorem eX3_reasonOfTakingOut_87 : decode cX3_reasonOfTakingOut 87 = .ok (.invokevirtual 56, 3) := by decide +kernel
theorem eX3_reasonOfTakingOut_90 : decode cX3_reasonOfTakingOut 90 = .ok (.ireturn, 1) := by decide +kernel
theorem kX3_reasonOfLine_0 : am_dec cX3_reasonOfLine 0 [.aload_n 0] 1 = true := by decide +kernel
theorem kX3_reasonOfLine_7 : am_dec cX3_reasonOfLine 7 [.aload_n 0] 8 = true := by decide +kernel
theorem kX3_reasonOfLine_14 : am_dec cX3_reasonOfLine 14 [.iconst 4] 15 = true := by decide +kernel
theorem kX3_reasonOfLine_16 : am_dec cX3_reasonOfLine 16 [.aload_n 0] 17 = true := by decide +kernel
theorem kX3_reasonOfLine_23 : am_dec cX3_reasonOfLine 23 [.iconst 5] 24 = true := by decide +kernel
theorem kX3_reasonOfLine_27 : am_dec cX3_reasonOfLine 27 [.iconst 0] 28 = true := by decide +kernel
theorem eX3_reasonOfLine_1 : decode cX3_reasonOfLine 1 = .ok (.invokevirtual 69, 3) := by decide +kernel
theorem eX3_reasonOfLine_4 : decode cX3_reasonOfLine 4 = .ok (.ifCond .ne 10, 3) := by decide +kernel
theorem eX3_reasonOfLine_8 : decode cX3_reasonOfLine 8 = .ok (.invokevirtual 73, 3) := by decide +kernel
theorem eX3_reasonOfLine_11 : decode cX3_reasonOfLine 11 = .ok (.ifCond .eq 5, 3) := by decide +kernel
theorem eX3_reasonOfLine_15 : decode cX3_reasonOfLine 15 = .ok (.ireturn, 1) := by decide +kernel
theorem eX3_reasonOfLine_17 : decode cX3_reasonOfLine 17 = .ok (.invokevirtual 76, 3) := by decide +kernel
theorem eX3_reasonOfLine_20 : decode cX3_reasonOfLine 20 = .ok (.ifCond .eq 7, 3) := by decide +kernel
theorem eX3_reasonOfLine_24 : decode cX3_reasonOfLine 24 = .ok (.goto 4, 3) := by decide +kernel
theorem eX3_reasonOfLine_28 : decode cX3_reasonOfLine 28 = .ok (.ireturn, 1) := by decide +kernel
theorem kX3_isStoneOnLine_0 : am_dec cX3_isStoneOnLine 0 [.iconst 0, .istore_n 1] 2 = true := by decide +kernel
theorem kX3_isStoneOnLine_2 : am_dec cX3_isStoneOnLine 2 [.iload_n 1, .aload_n 0] 4 = true := by decide +kernel
theorem kX3_isStoneOnLine_13 : am_dec cX3_isStoneOnLine 13 [.aload_n 0] 14 = true := by decide +kernel
theorem kX3_isStoneOnLine_17 : am_dec cX3_isStoneOnLine 17 [.aload_n 0] 18 = true := by decide +kernel
theorem kX3_isStoneOnLine_21 : am_dec cX3_isStoneOnLine 21 [.iload_n 1] 22 = true := by decide +kernel
theorem kX3_isStoneOnLine_25 : am_dec cX3_isStoneOnLine 25 [.aload_n 0] 26 = true := by decide +kernel
theorem kX3_isStoneOnLine_29 : am_dec cX3_isStoneOnLine 29 [.iload_n 1] 30 = true := by decide +kernel
theorem kX3_isStoneOnLine_39 : am_dec cX3_isStoneOnLine 39 [.iconst 1] 40 = true := by decide +kernel
theorem kX3_isStoneOnLine_41 : am_dec cX3_isStoneOnLine 41 [.iinc 1 1] 44 = true := by decide +kernel
theorem kX3_isStoneOnLine_47 : am_dec cX3_isStoneOnLine 47 [.iconst 0] 48 = true := by decide +kernel
theorem eX3_isStoneOnLine_4 : decode cX3_isStoneOnLine 4 = .ok (.getfield 18, 3) := by decide +kernel
theorem eX3_isStoneOnLine_7 : decode cX3_isStoneOnLine 7 = .ok (.getfield 79, 3) := by decide +kernel
theorem eX3_isStoneOnLine_10 : decode cX3_isStoneOnLine 10 = .ok (.if_icmp .ge 37, 3) := by decide +kernel
theorem eX3_isStoneOnLine_14 : decode cX3_isStoneOnLine 14 = .ok (.getfield 12, 3) := by decide +kernel
theorem eX3_isStoneOnLine_18 : decode cX3_isStoneOnLine 18 = .ok (.getfield 18, 3) := by decide +kernel
theorem eX3_isStoneOnLine_22 : decode cX3_isStoneOnLine 22 = .ok (.invokevirtual 82, 3) := by decide +kernel
theorem eX3_isStoneOnLine_26 : decode cX3_isStoneOnLine 26 = .ok (.getfield 18, 3) := by decide +kernel
theorem eX3_isStoneOnLine_30 : decode cX3_isStoneOnLine 30 = .ok (.invokevirtual 85, 3) := by decide +kernel
theorem eX3_isStoneOnLine_33 : decode cX3_isStoneOnLine 33 = .ok (.invokevirtual 88, 3) := by decide +kernel
theorem eX3_isStoneOnLine_36 : decode cX3_isStoneOnLine 36 = .ok (.ifCond .eq 5, 3) := by decide +kernel
theorem eX3_isStoneOnLine_40 : decode cX3_isStoneOnLine 40 = .ok (.ireturn, 1) := by decide +kernel
theorem eX3_isStoneOnLine_44 : decode cX3_isStoneOnLine 44 = .ok (.goto (-42), 3) := by decide +kernel
theorem eX3_isStoneOnLine_48 : decode cX3_isStoneOnLine 48 = .ok (.ireturn, 1) := by decide +kernel
theorem kX3_isCornerOnLine_0 : am_dec cX3_isCornerOnLine 0 [.iconst 0, .istore_n 1] 2 = true := by decide +kernel
theorem kX3_isCornerOnLine_2 : am_dec cX3_isCornerOnLine 2 [.iload_n 1, .aload_n 0] 4 = true := by decide +kernel
theorem kX3_isCornerOnLine_13 : am_dec cX3_isCornerOnLine 13 [.aload_n 0] 14 = true := by decide +kernel
theorem kX3_isCornerOnLine_17 : am_dec cX3_isCornerOnLine 17 [.iload_n 1] 18 = true := by decide +kernel
theorem kX3_isCornerOnLine_21 : am_dec cX3_isCornerOnLine 21 [.astore_n 2, .iconst 0, .istore_n 3] 24 = true := by decide +kernel
theorem kX3_isCornerOnLine_24 : am_dec cX3_isCornerOnLine 24 [.iload_n 3, .aload_n 2] 26 = true := by decide +kernel
theorem kX3_isCornerOnLine_32 : am_dec cX3_isCornerOnLine 32 [.aload_n 2, .iload_n 3] 34 = true := by decide +kernel
theorem kX3_isCornerOnLine_37 : am_dec cX3_isCornerOnLine 37 [.istore 4, .aload_n 2, .iload_n 3] 41 = true := by decide +kernel
theorem kX3_isCornerOnLine_44 : am_dec cX3_isCornerOnLine 44 [.istore 5, .aload_n 0] 47 = true := by decide +kernel
theorem kX3_isCornerOnLine_50 : am_dec cX3_isCornerOnLine 50 [.iload_n 1, .iload_n 3] 52 = true := by decide +kernel
theorem kX3_isCornerOnLine_58 : am_dec cX3_isCornerOnLine 58 [.aload_n 0] 59 = true := by decide +kernel
theorem kX3_isCornerOnLine_62 : am_dec cX3_isCornerOnLine 62 [.iload 4, .iload 5] 66 = true := by decide +kernel
theorem kX3_isCornerOnLine_72 : am_dec cX3_isCornerOnLine 72 [.aload_n 0] 73 = true := by decide +kernel
theorem kX3_isCornerOnLine_76 : am_dec cX3_isCornerOnLine 76 [.iload 4, .iload 5] 80 = true := by decide +kernel
theorem kX3_isCornerOnLine_86 : am_dec cX3_isCornerOnLine 86 [.iconst 1] 87 = true := by decide +kernel
theorem kX3_isCornerOnLine_88 : am_dec cX3_isCornerOnLine 88 [.iinc 3 1] 91 = true := by decide +kernel
theorem kX3_isCornerOnLine_94 : am_dec cX3_isCornerOnLine 94 [.iinc 1 1] 97 = true := by decide +kernel
theorem kX3_isCornerOnLine_100 : am_dec cX3_isCornerOnLine 100 [.iconst 0] 101 = true := by decide +kernel
theorem eX3_isCornerOnLine_4 : decode cX3_isCornerOnLine 4 = .ok (.getfield 18, 3) := by decide +kernel
theorem eX3_isCornerOnLine_7 : decode cX3_isCornerOnLine 7 = .ok (.getfield 91, 3) := by decide +kernel
theorem eX3_isCornerOnLine_10 : decode cX3_isCornerOnLine 10 = .ok (.if_icmp .ge 90, 3) := by decide +kernel
theorem eX3_isCornerOnLine_14 : decode cX3_isCornerOnLine 14 = .ok (.getfield 18, 3) := by decide +kernel
theorem eX3_isCornerOnLine_18 : decode cX3_isCornerOnLine 18 = .ok (.invokevirtual 22, 3) := by decide +kernel
theorem eX3_isCornerOnLine_26 : decode cX3_isCornerOnLine 26 = .ok (.getfield 34, 3) := by decide +kernel
theorem eX3_isCornerOnLine_29 : decode cX3_isCornerOnLine 29 = .ok (.if_icmp .ge 65, 3) := by decide +kernel
theorem eX3_isCornerOnLine_34 : decode cX3_isCornerOnLine 34 = .ok (.invokevirtual 45, 3) := by decide +kernel
theorem eX3_isCornerOnLine_41 : decode cX3_isCornerOnLine 41 = .ok (.invokevirtual 49, 3) := by decide +kernel
theorem eX3_isCornerOnLine_47 : decode cX3_isCornerOnLine 47 = .ok (.getfield 12, 3) := by decide +kernel
theorem eX3_isCornerOnLine_52 : decode cX3_isCornerOnLine 52 = .ok (.invokevirtual 94, 3) := by decide +kernel
theorem eX3_isCornerOnLine_55 : decode cX3_isCornerOnLine 55 = .ok (.ifCond .ne 33, 3) := by decide +kernel
theorem eX3_isCornerOnLine_59 : decode cX3_isCornerOnLine 59 = .ok (.getfield 12, 3) := by decide +kernel
theorem eX3_isCornerOnLine_66 : decode cX3_isCornerOnLine 66 = .ok (.invokevirtual 97, 3) := by decide +kernel
theorem eX3_isCornerOnLine_69 : decode cX3_isCornerOnLine 69 = .ok (.ifCond .ne 19, 3) := by decide +kernel
theorem eX3_isCornerOnLine_73 : decode cX3_isCornerOnLine 73 = .ok (.getfield 12, 3) := by decide +kernel
theorem eX3_isCornerOnLine_80 : decode cX3_isCornerOnLine 80 = .ok (.invokevirtual 88, 3) := by decide +kernel
theorem eX3_isCornerOnLine_83 : decode cX3_isCornerOnLine 83 = .ok (.ifCond .eq 5, 3) := by decide +kernel
theorem eX3_isCornerOnLine_87 : decode cX3_isCornerOnLine 87 = .ok (.ireturn, 1) := by decide +kernel
theorem eX3_isCornerOnLine_91 : decode cX3_isCornerOnLine 91 = .ok (.goto (-67), 3) := by decide +kernel
theorem eX3_isCornerOnLine_97 : decode cX3_isCornerOnLine 97 = .ok (.goto (-95), 3) := by decide +kernel
theorem eX3_isCornerOnLine_101 : decode cX3_isCornerOnLine 101 = .ok (.ireturn, 1) := by decide +kernel
theorem kX3_isSideMet_0 : am_dec cX3_isSideMet 0 [.iconst 0, .istore_n 1] 2 = true := by decide +kernel
theorem kX3_isSideMet_2 : am_dec cX3_isSideMet 2 [.iload_n 1, .aload_n 0] 4 = true := by decide +kernel
theorem kX3_isSideMet_13 : am_dec cX3_isSideMet 13 [.aload_n 0] 14 = true := by decide +kernel
theorem kX3_isSideMet_17 : am_dec cX3_isSideMet 17 [.iload_n 1] 18 = true := by decide +kernel
theorem kX3_isSideMet_21 : am_dec cX3_isSideMet 21 [.astore_n 2, .iconst 0, .istore_n 3] 24 = true := by decide +kernel
theorem kX3_isSideMet_24 : am_dec cX3_isSideMet 24 [.iload_n 3, .aload_n 2] 26 = true := by decide +kernel
theorem kX3_isSideMet_32 : am_dec cX3_isSideMet 32 [.aload_n 2, .iload_n 3] 34 = true := by decide +kernel
theorem kX3_isSideMet_37 : am_dec cX3_isSideMet 37 [.istore 4, .aload_n 0] 40 = true := by decide +kernel
theorem kX3_isSideMet_43 : am_dec cX3_isSideMet 43 [.iload_n 1, .iload_n 3] 45 = true := by decide +kernel
theorem kX3_isSideMet_51 : am_dec cX3_isSideMet 51 [.aload_n 0] 52 = true := by decide +kernel
theorem kX3_isSideMet_55 : am_dec cX3_isSideMet 55 [.aload_n 2, .iload_n 3] 57 = true := by decide +kernel
theorem kX3_isSideMet_60 : am_dec cX3_isSideMet 60 [.aload_n 2, .iload_n 3] 62 = true := by decide +kernel
theorem kX3_isSideMet_65 : am_dec cX3_isSideMet 65 [.aload_n 2, .iload 4] 68 = true := by decide +kernel
theorem kX3_isSideMet_71 : am_dec cX3_isSideMet 71 [.aload_n 2, .iload 4] 74 = true := by decide +kernel
theorem kX3_isSideMet_83 : am_dec cX3_isSideMet 83 [.iconst 1] 84 = true := by decide +kernel
theorem kX3_isSideMet_85 : am_dec cX3_isSideMet 85 [.iinc 3 1] 88 = true := by decide +kernel
theorem kX3_isSideMet_91 : am_dec cX3_isSideMet 91 [.iinc 1 1] 94 = true := by decide +kernel
theorem kX3_isSideMet_97 : am_dec cX3_isSideMet 97 [.iconst 0] 98 = true := by decide +kernel
theorem eX3_isSideMet_4 : decode cX3_isSideMet 4 = .ok (.getfield 18, 3) := by decide +kernel
theorem eX3_isSideMet_7 : decode cX3_isSideMet 7 = .ok (.getfield 91, 3) := by decide +kernel
theorem eX3_isSideMet_10 : decode cX3_isSideMet 10 = .ok (.if_icmp .ge 87, 3) := by decide +kernel
theorem eX3_isSideMet_14 : decode cX3_isSideMet 14 = .ok (.getfield 18, 3) := by decide +kernel
theorem eX3_isSideMet_18 : decode cX3_isSideMet 18 = .ok (.invokevirtual 22, 3) := by decide +kernel
theorem eX3_isSideMet_26 : decode cX3_isSideMet 26 = .ok (.invokevirtual 100, 3) := by decide +kernel
theorem eX3_isSideMet_29 : decode cX3_isSideMet 29 = .ok (.if_icmp .ge 62, 3) := by decide +kernel
theorem eX3_isSideMet_34 : decode cX3_isSideMet 34 = .ok (.invokevirtual 63, 3) := by decide +kernel
theorem eX3_isSideMet_40 : decode cX3_isSideMet 40 = .ok (.getfield 12, 3) := by decide +kernel
theorem eX3_isSideMet_45 : decode cX3_isSideMet 45 = .ok (.invokevirtual 103, 3) := by decide +kernel
theorem eX3_isSideMet_48 : decode cX3_isSideMet 48 = .ok (.ifCond .ne 37, 3) := by decide +kernel
theorem eX3_isSideMet_52 : decode cX3_isSideMet 52 = .ok (.getfield 12, 3) := by decide +kernel
theorem eX3_isSideMet_57 : decode cX3_isSideMet 57 = .ok (.invokevirtual 45, 3) := by decide +kernel
theorem eX3_isSideMet_62 : decode cX3_isSideMet 62 = .ok (.invokevirtual 49, 3) := by decide +kernel
theorem eX3_isSideMet_68 : decode cX3_isSideMet 68 = .ok (.invokevirtual 45, 3) := by decide +kernel
theorem eX3_isSideMet_74 : decode cX3_isSideMet 74 = .ok (.invokevirtual 49, 3) := by decide +kernel
theorem eX3_isSideMet_77 : decode cX3_isSideMet 77 = .ok (.invokevirtual 106, 3) := by decide +kernel
theorem eX3_isSideMet_80 : decode cX3_isSideMet 80 = .ok (.ifCond .eq 5, 3) := by decide +kernel
theorem eX3_isSideMet_84 : decode cX3_isSideMet 84 = .ok (.ireturn, 1) := by decide +kernel
theorem eX3_isSideMet_88 : decode cX3_isSideMet 88 = .ok (.goto (-64), 3) := by decide +kernel
theorem eX3_isSideMet_94 : decode cX3_isSideMet 94 = .ok (.goto (-92), 3) := by decide +kernel
theorem eX3_isSideMet_98 : decode cX3_isSideMet 98 = .ok (.ireturn, 1) := by decide +kernel
theorem kX4_init_0 : am_dec cX4_init 0 [.aload_n 0] 1 = true := by decide +kernel
theorem kX4_init_4 : am_dec cX4_init 4 [.aload_n 0, .iconst 0] 6 = true := by decide +kernel
theorem kX4_init_9 : am_dec cX4_init 9 [.aload_n 0, .iconst 0] 11 = true := by decide +kernel
theorem kX4_init_14 : am_dec cX4_init 14 [.aload_n 0, .iconst 0] 16 = true := by decide +kernel
theorem kX4_init_19 : am_dec cX4_init 19 [.aload_n 0, .iconst 0] 21 = true := by decide +kernel
theorem kX4_init_24 : am_dec cX4_init 24 [.aload_n 0, .iconst (-1)] 26 = true := by decide +kernel
theorem kX4_init_29 : am_dec cX4_init 29 [.aload_n 0, .iconst (-1)] 31 = true := by decide +kernel
theorem kX4_init_34 : am_dec cX4_init 34 [.aload_n 0, .iconst (-1)] 36 = true := by decide +kernel
theorem kX4_init_39 : am_dec cX4_init 39 [.aload_n 0, .iconst (-1)] 41 = true := by decide +kernel
theorem eX4_init_1 : decode cX4_init 1 = .ok (.invokespecial 3, 3) := by decide +kernel
theorem eX4_init_6 : decode cX4_init 6 = .ok (.putfield 9, 3) := by decide +kernel
theorem eX4_init_11 : decode cX4_init 11 = .ok (.putfield 15, 3) := by decide +kernel
theorem eX4_init_16 : decode cX4_init 16 = .ok (.putfield 18, 3) := by decide +kernel
theorem eX4_init_21 : decode cX4_init 21 = .ok (.putfield 21, 3) := by decide +kernel
theorem eX4_init_26 : decode cX4_init 26 = .ok (.putfield 24, 3) := by decide +kernel
theorem eX4_init_31 : decode cX4_init 31 = .ok (.putfield 27, 3) := by decide +kernel
theorem eX4_init_36 : decode cX4_init 36 = .ok (.putfield 30, 3) := by decide +kernel
theorem eX4_init_41 : decode cX4_init 41 = .ok (.putfield 33, 3) := by decide +kernel
theorem eX4_init_44 : decode cX4_init 44 = .ok (.return_, 1) := by decide +kernel
theorem kX4_draw_0 : am_dec cX4_draw 0 [.aload_n 0, .iload_n 1] 2 = true := by decide +kernel
theorem kX4_draw_5 : am_dec cX4_draw 5 [.aload_n 0, .iload_n 2] 7 = true := by decide +kernel
theorem kX4_draw_10 : am_dec cX4_draw 10 [.aload_n 0, .iload_n 3] 12 = true := by decide +kernel
theorem kX4_draw_15 : am_dec cX4_draw 15 [.aload_n 0, .iload 4] 18 = true := by decide +kernel
theorem eX4_draw_2 : decode cX4_draw 2 = .ok (.putfield 9, 3) := by decide +kernel
theorem eX4_draw_7 : decode cX4_draw 7 = .ok (.putfield 15, 3) := by decide +kernel
theorem eX4_draw_12 : decode cX4_draw 12 = .ok (.putfield 18, 3) := by decide +kernel
theorem eX4_draw_18 : decode cX4_draw 18 = .ok (.putfield 21, 3) := by decide +kernel
theorem eX4_draw_21 : decode cX4_draw 21 = .ok (.return_, 1) := by decide +kernel
theorem kX4_loseNothing_0 : am_dec cX4_loseNothing 0 [.aload_n 0, .iconst (-1)] 2 = true := by decide +kernel
theorem eX4_loseNothing_2 : decode cX4_loseNothing 2 = .ok (.putfield 24, 3) := by decide +kernel
theorem eX4_loseNothing_5 : decode cX4_loseNothing 5 = .ok (.return_, 1) := by decide +kernel
theorem kX4_lose_0 : am_dec cX4_lose 0 [.aload_n 0, .iload_n 1] 2 = true := by decide +kernel
theorem kX4_lose_5 : am_dec cX4_lose 5 [.aload_n 0, .iload_n 2] 7 = true := by decide +kernel
theorem kX4_lose_10 : am_dec cX4_lose 10 [.aload_n 0, .iload_n 3] 12 = true := by decide +kernel
theorem kX4_lose_15 : am_dec cX4_lose 15 [.aload_n 0, .iload 4] 18 = true := by decide +kernel
theorem eX4_lose_2 : decode cX4_lose 2 = .ok (.putfield 24, 3) := by decide +kernel
theorem eX4_lose_7 : decode cX4_lose 7 = .ok (.putfield 27, 3) := by decide +kernel
theorem eX4_lose_12 : decode cX4_lose 12 = .ok (.putfield 30, 3) := by decide +kernel
theorem eX4_lose_18 : decode cX4_lose 18 = .ok (.putfield 33, 3) := by decide +kernel
theorem eX4_lose_21 : decode cX4_lose 21 = .ok (.return_, 1) := by decide +kernel
theorem kX4_losesCorner_0 : am_dec cX4_losesCorner 0 [.iload_n 1, .aload_n 0] 2 = true := by decide +kernel
theorem kX4_losesCorner_8 : am_dec cX4_losesCorner 8 [.iload_n 2, .aload_n 0] 10 = true := by decide +kernel
theorem kX4_losesCorner_16 : am_dec cX4_losesCorner 16 [.iconst 1] 17 = true := by decide +kernel
theorem kX4_losesCorner_20 : am_dec cX4_losesCorner 20 [.iconst 0] 21 = true := by decide +kernel
theorem eX4_losesCorner_2 : decode cX4_losesCorner 2 = .ok (.getfield 24, 3) := by decide +kernel
theorem eX4_losesCorner_5 : decode cX4_losesCorner 5 = .ok (.if_icmp .ne 15, 3) := by decide +kernel
theorem eX4_losesCorner_10 : decode cX4_losesCorner 10 = .ok (.getfield 27, 3) := by decide +kernel
theorem eX4_losesCorner_13 : decode cX4_losesCorner 13 = .ok (.if_icmp .ne 7, 3) := by decide +kernel
theorem eX4_losesCorner_17 : decode cX4_losesCorner 17 = .ok (.goto 4, 3) := by decide +kernel
theorem eX4_losesCorner_21 : decode cX4_losesCorner 21 = .ok (.ireturn, 1) := by decide +kernel
theorem kX4_losesSide_0 : am_dec cX4_losesSide 0 [.iload_n 1, .aload_n 0] 2 = true := by decide +kernel
theorem kX4_losesSide_8 : am_dec cX4_losesSide 8 [.iload_n 2, .aload_n 0] 10 = true := by decide +kernel
theorem kX4_losesSide_16 : am_dec cX4_losesSide 16 [.iload_n 2, .aload_n 0] 18 = true := by decide +kernel
theorem kX4_losesSide_24 : am_dec cX4_losesSide 24 [.iconst 1] 25 = true := by decide +kernel
theorem kX4_losesSide_28 : am_dec cX4_losesSide 28 [.iconst 0] 29 = true := by decide +kernel
theorem eX4_losesSide_2 : decode cX4_losesSide 2 = .ok (.getfield 24, 3) := by decide +kernel
theorem eX4_losesSide_5 : decode cX4_losesSide 5 = .ok (.if_icmp .ne 23, 3) := by decide +kernel
theorem eX4_losesSide_10 : decode cX4_losesSide 10 = .ok (.getfield 30, 3) := by decide +kernel
theorem eX4_losesSide_13 : decode cX4_losesSide 13 = .ok (.if_icmp .eq 11, 3) := by decide +kernel
theorem eX4_losesSide_18 : decode cX4_losesSide 18 = .ok (.getfield 33, 3) := by decide +kernel
theorem eX4_losesSide_21 : decode cX4_losesSide 21 = .ok (.if_icmp .ne 7, 3) := by decide +kernel
theorem eX4_losesSide_25 : decode cX4_losesSide 25 = .ok (.goto 4, 3) := by decide +kernel
theorem eX4_losesSide_29 : decode cX4_losesSide 29 = .ok (.ireturn, 1) := by decide +kernel
theorem kX4_endsAt_0 : am_dec cX4_endsAt 0 [.iload_n 1, .aload_n 0] 2 = true := by decide +kernel
theorem kX4_endsAt_8 : am_dec cX4_endsAt 8 [.iload_n 2, .aload_n 0] 10 = true := by decide +kernel
theorem kX4_endsAt_16 : am_dec cX4_endsAt 16 [.iload_n 1, .aload_n 0] 18 = true := by decide +kernel
theorem kX4_endsAt_24 : am_dec cX4_endsAt 24 [.iload_n 2, .aload_n 0] 26 = true := by decide +kernel
theorem kX4_endsAt_32 : am_dec cX4_endsAt 32 [.iconst 1] 33 = true := by decide +kernel
theorem kX4_endsAt_36 : am_dec cX4_endsAt 36 [.iconst 0] 37 = true := by decide +kernel
theorem eX4_endsAt_2 : decode cX4_endsAt 2 = .ok (.getfield 9, 3) := by decide +kernel
theorem eX4_endsAt_5 : decode cX4_endsAt 5 = .ok (.if_icmp .ne 11, 3) := by decide +kernel
theorem eX4_endsAt_10 : decode cX4_endsAt 10 = .ok (.getfield 15, 3) := by decide +kernel
theorem eX4_endsAt_13 : decode cX4_endsAt 13 = .ok (.if_icmp .eq 19, 3) := by decide +kernel
theorem eX4_endsAt_18 : decode cX4_endsAt 18 = .ok (.getfield 18, 3) := by decide +kernel
theorem eX4_endsAt_21 : decode cX4_endsAt 21 = .ok (.if_icmp .ne 15, 3) := by decide +kernel
theorem eX4_endsAt_26 : decode cX4_endsAt 26 = .ok (.getfield 21, 3) := by decide +kernel
theorem eX4_endsAt_29 : decode cX4_endsAt 29 = .ok (.if_icmp .ne 7, 3) := by decide +kernel
theorem eX4_endsAt_33 : decode cX4_endsAt 33 = .ok (.goto 4, 3) := by decide +kernel
theorem eX4_endsAt_37 : decode cX4_endsAt 37 = .ok (.ireturn, 1) := by decide +kernel
theorem kX4_holds_0 : am_dec cX4_holds 0 [.aload_n 0] 1 = true := by decide +kernel
theorem kX4_holds_4 : am_dec cX4_holds 4 [.aload_n 0] 5 = true := by decide +kernel
theorem kX4_holds_8 : am_dec cX4_holds 8 [.aload_n 0] 9 = true := by decide +kernel
theorem kX4_holds_12 : am_dec cX4_holds 12 [.aload_n 0] 13 = true := by decide +kernel
theorem kX4_holds_16 : am_dec cX4_holds 16 [.iload_n 1, .iload_n 2] 18 = true := by decide +kernel
theorem eX4_holds_1 : decode cX4_holds 1 = .ok (.getfield 9, 3) := by decide +kernel
theorem eX4_holds_5 : decode cX4_holds 5 = .ok (.getfield 15, 3) := by decide +kernel
theorem eX4_holds_9 : decode cX4_holds 9 = .ok (.getfield 18, 3) := by decide +kernel
theorem eX4_holds_13 : decode cX4_holds 13 = .ok (.getfield 21, 3) := by decide +kernel
theorem eX4_holds_18 : decode cX4_holds 18 = .ok (.invokestatic 36, 3) := by decide +kernel
theorem eX4_holds_21 : decode cX4_holds 21 = .ok (.ireturn, 1) := by decide +kernel
theorem kX4_meets_0 : am_dec cX4_meets 0 [.aload_n 0, .iload_n 1, .iload_n 2] 3 = true := by decide +kernel
theorem kX4_meets_9 : am_dec cX4_meets 9 [.aload_n 0, .iload_n 1, .iload_n 2, .iload_n 3, .iload 4] 15 = true := by decide +kernel
theorem kX4_meets_19 : am_dec cX4_meets 19 [.aload_n 0, .iload_n 3, .iload 4] 23 = true := by decide +kernel
theorem kX4_meets_29 : am_dec cX4_meets 29 [.aload_n 0, .iload_n 3, .iload 4, .iload_n 1, .iload_n 2] 35 = true := by decide +kernel
theorem kX4_meets_39 : am_dec cX4_meets 39 [.aload_n 0] 40 = true := by decide +kernel
theorem kX4_meets_43 : am_dec cX4_meets 43 [.aload_n 0] 44 = true := by decide +kernel
theorem kX4_meets_50 : am_dec cX4_meets 50 [.iload_n 1, .iload_n 3] 52 = true := by decide +kernel
theorem kX4_meets_58 : am_dec cX4_meets 58 [.iload_n 1, .iload_n 3] 60 = true := by decide +kernel
theorem kX4_meets_63 : am_dec cX4_meets 63 [.aload_n 0] 64 = true := by decide +kernel
theorem kX4_meets_67 : am_dec cX4_meets 67 [.aload_n 0] 68 = true := by decide +kernel
theorem kX4_meets_77 : am_dec cX4_meets 77 [.iconst 1] 78 = true := by decide +kernel
theorem kX4_meets_81 : am_dec cX4_meets 81 [.iconst 0] 82 = true := by decide +kernel
theorem kX4_meets_82 : am_dec cX4_meets 82 [.istore 5, .aload_n 0] 85 = true := by decide +kernel
theorem kX4_meets_88 : am_dec cX4_meets 88 [.aload_n 0] 89 = true := by decide +kernel
theorem kX4_meets_95 : am_dec cX4_meets 95 [.iload_n 2, .iload 4] 98 = true := by decide +kernel
theorem kX4_meets_104 : am_dec cX4_meets 104 [.iload_n 2, .iload 4] 107 = true := by decide +kernel
theorem kX4_meets_110 : am_dec cX4_meets 110 [.aload_n 0] 111 = true := by decide +kernel
theorem kX4_meets_114 : am_dec cX4_meets 114 [.aload_n 0] 115 = true := by decide +kernel
theorem kX4_meets_124 : am_dec cX4_meets 124 [.iconst 1] 125 = true := by decide +kernel
theorem kX4_meets_128 : am_dec cX4_meets 128 [.iconst 0] 129 = true := by decide +kernel
theorem kX4_meets_129 : am_dec cX4_meets 129 [.istore 6, .iload 5] 133 = true := by decide +kernel
theorem kX4_meets_136 : am_dec cX4_meets 136 [.iload 6] 138 = true := by decide +kernel
theorem kX4_meets_141 : am_dec cX4_meets 141 [.iconst 0] 142 = true := by decide +kernel
theorem kX4_meets_143 : am_dec cX4_meets 143 [.aload_n 0] 144 = true := by decide +kernel
theorem kX4_meets_147 : am_dec cX4_meets 147 [.aload_n 0] 148 = true := by decide +kernel
theorem kX4_meets_151 : am_dec cX4_meets 151 [.aload_n 0] 152 = true := by decide +kernel
theorem kX4_meets_155 : am_dec cX4_meets 155 [.aload_n 0] 156 = true := by decide +kernel
theorem kX4_meets_159 : am_dec cX4_meets 159 [.iload_n 1, .iload_n 2] 161 = true := by decide +kernel
theorem kX4_meets_164 : am_dec cX4_meets 164 [.istore 7, .aload_n 0] 167 = true := by decide +kernel
theorem kX4_meets_170 : am_dec cX4_meets 170 [.aload_n 0] 171 = true := by decide +kernel
theorem kX4_meets_174 : am_dec cX4_meets 174 [.aload_n 0] 175 = true := by decide +kernel
theorem kX4_meets_178 : am_dec cX4_meets 178 [.aload_n 0] 179 = true := by decide +kernel
theorem kX4_meets_182 : am_dec cX4_meets 182 [.iload_n 3, .iload 4] 185 = true := by decide +kernel
theorem kX4_meets_188 : am_dec cX4_meets 188 [.istore 8, .iload_n 1, .iload_n 2, .iload_n 3, .iload 4, .aload_n 0] 196 = true := by decide +kernel
theorem kX4_meets_199 : am_dec cX4_meets 199 [.aload_n 0] 200 = true := by decide +kernel
theorem kX4_meets_206 : am_dec cX4_meets 206 [.istore 9, .iload_n 1, .iload_n 2, .iload_n 3, .iload 4, .aload_n 0] 214 = true := by decide +kernel
theorem kX4_meets_217 : am_dec cX4_meets 217 [.aload_n 0] 218 = true := by decide +kernel
theorem kX4_meets_224 : am_dec cX4_meets 224 [.istore 10, .iload 7, .iload 8, .imul] 231 = true := by decide +kernel
theorem kX4_meets_234 : am_dec cX4_meets 234 [.iload 9, .iload 10, .imul] 239 = true := by decide +kernel
theorem kX4_meets_242 : am_dec cX4_meets 242 [.iconst 1] 243 = true := by decide +kernel
theorem kX4_meets_246 : am_dec cX4_meets 246 [.iconst 0] 247 = true := by decide +kernel
theorem eX4_meets_3 : decode cX4_meets 3 = .ok (.invokevirtual 42, 3) := by decide +kernel
theorem eX4_meets_6 : decode cX4_meets 6 = .ok (.ifCond .eq 13, 3) := by decide +kernel
theorem eX4_meets_15 : decode cX4_meets 15 = .ok (.invokevirtual 46, 3) := by decide +kernel
theorem eX4_meets_18 : decode cX4_meets 18 = .ok (.ireturn, 1) := by decide +kernel
theorem eX4_meets_23 : decode cX4_meets 23 = .ok (.invokevirtual 42, 3) := by decide +kernel
theorem eX4_meets_26 : decode cX4_meets 26 = .ok (.ifCond .eq 13, 3) := by decide +kernel
theorem eX4_meets_35 : decode cX4_meets 35 = .ok (.invokevirtual 46, 3) := by decide +kernel
theorem eX4_meets_38 : decode cX4_meets 38 = .ok (.ireturn, 1) := by decide +kernel
theorem eX4_meets_40 : decode cX4_meets 40 = .ok (.getfield 9, 3) := by decide +kernel
theorem eX4_meets_44 : decode cX4_meets 44 = .ok (.getfield 18, 3) := by decide +kernel
theorem eX4_meets_47 : decode cX4_meets 47 = .ok (.invokestatic 50, 3) := by decide +kernel
theorem eX4_meets_52 : decode cX4_meets 52 = .ok (.invokestatic 56, 3) := by decide +kernel
theorem eX4_meets_55 : decode cX4_meets 55 = .ok (.if_icmp .lt 22, 3) := by decide +kernel
theorem eX4_meets_60 : decode cX4_meets 60 = .ok (.invokestatic 50, 3) := by decide +kernel
theorem eX4_meets_64 : decode cX4_meets 64 = .ok (.getfield 9, 3) := by decide +kernel
theorem eX4_meets_68 : decode cX4_meets 68 = .ok (.getfield 18, 3) := by decide +kernel
theorem eX4_meets_71 : decode cX4_meets 71 = .ok (.invokestatic 56, 3) := by decide +kernel
theorem eX4_meets_74 : decode cX4_meets 74 = .ok (.if_icmp .ge 7, 3) := by decide +kernel
theorem eX4_meets_78 : decode cX4_meets 78 = .ok (.goto 4, 3) := by decide +kernel
theorem eX4_meets_85 : decode cX4_meets 85 = .ok (.getfield 15, 3) := by decide +kernel
theorem eX4_meets_89 : decode cX4_meets 89 = .ok (.getfield 21, 3) := by decide +kernel
theorem eX4_meets_92 : decode cX4_meets 92 = .ok (.invokestatic 50, 3) := by decide +kernel
theorem eX4_meets_98 : decode cX4_meets 98 = .ok (.invokestatic 56, 3) := by decide +kernel
theorem eX4_meets_101 : decode cX4_meets 101 = .ok (.if_icmp .lt 23, 3) := by decide +kernel
theorem eX4_meets_107 : decode cX4_meets 107 = .ok (.invokestatic 50, 3) := by decide +kernel
theorem eX4_meets_111 : decode cX4_meets 111 = .ok (.getfield 15, 3) := by decide +kernel
theorem eX4_meets_115 : decode cX4_meets 115 = .ok (.getfield 21, 3) := by decide +kernel
theorem eX4_meets_118 : decode cX4_meets 118 = .ok (.invokestatic 56, 3) := by decide +kernel
theorem eX4_meets_121 : decode cX4_meets 121 = .ok (.if_icmp .ge 7, 3) := by decide +kernel
theorem eX4_meets_125 : decode cX4_meets 125 = .ok (.goto 4, 3) := by decide +kernel
theorem eX4_meets_133 : decode cX4_meets 133 = .ok (.ifCond .ne 8, 3) := by decide +kernel
theorem eX4_meets_138 : decode cX4_meets 138 = .ok (.ifCond .eq 5, 3) := by decide +kernel
theorem eX4_meets_142 : decode cX4_meets 142 = .ok (.ireturn, 1) := by decide +kernel
theorem eX4_meets_144 : decode cX4_meets 144 = .ok (.getfield 9, 3) := by decide +kernel
theorem eX4_meets_148 : decode cX4_meets 148 = .ok (.getfield 15, 3) := by decide +kernel
theorem eX4_meets_152 : decode cX4_meets 152 = .ok (.getfield 18, 3) := by decide +kernel
theorem eX4_meets_156 : decode cX4_meets 156 = .ok (.getfield 21, 3) := by decide +kernel
theorem eX4_meets_161 : decode cX4_meets 161 = .ok (.invokestatic 59, 3) := by decide +kernel
theorem eX4_meets_167 : decode cX4_meets 167 = .ok (.getfield 9, 3) := by decide +kernel
theorem eX4_meets_171 : decode cX4_meets 171 = .ok (.getfield 15, 3) := by decide +kernel
theorem eX4_meets_175 : decode cX4_meets 175 = .ok (.getfield 18, 3) := by decide +kernel
theorem eX4_meets_179 : decode cX4_meets 179 = .ok (.getfield 21, 3) := by decide +kernel
theorem eX4_meets_185 : decode cX4_meets 185 = .ok (.invokestatic 59, 3) := by decide +kernel
theorem eX4_meets_196 : decode cX4_meets 196 = .ok (.getfield 9, 3) := by decide +kernel
theorem eX4_meets_200 : decode cX4_meets 200 = .ok (.getfield 15, 3) := by decide +kernel
theorem eX4_meets_203 : decode cX4_meets 203 = .ok (.invokestatic 59, 3) := by decide +kernel
theorem eX4_meets_214 : decode cX4_meets 214 = .ok (.getfield 18, 3) := by decide +kernel
theorem eX4_meets_218 : decode cX4_meets 218 = .ok (.getfield 21, 3) := by decide +kernel
theorem eX4_meets_221 : decode cX4_meets 221 = .ok (.invokestatic 59, 3) := by decide +kernel
theorem eX4_meets_231 : decode cX4_meets 231 = .ok (.ifCond .gt 15, 3) := by decide +kernel
theorem eX4_meets_239 : decode cX4_meets 239 = .ok (.ifCond .gt 7, 3) := by decide +kernel
theorem eX4_meets_243 : decode cX4_meets 243 = .ok (.goto 4, 3) := by decide +kernel
theorem eX4_meets_247 : decode cX4_meets 247 = .ok (.ireturn, 1) := by decide +kernel
theorem kX4_goesAlong_0 : am_dec cX4_goesAlong 0 [.iload_n 1, .aload_n 0] 2 = true := by decide +kernel
theorem kX4_goesAlong_8 : am_dec cX4_goesAlong 8 [.iload_n 2, .aload_n 0] 10 = true := by decide +kernel
theorem kX4_goesAlong_16 : am_dec cX4_goesAlong 16 [.iconst 1] 17 = true := by decide +kernel
theorem kX4_goesAlong_20 : am_dec cX4_goesAlong 20 [.iconst 0] 21 = true := by decide +kernel
theorem kX4_goesAlong_21 : am_dec cX4_goesAlong 21 [.istore 5, .iload 5] 25 = true := by decide +kernel
theorem kX4_goesAlong_28 : am_dec cX4_goesAlong 28 [.aload_n 0] 29 = true := by decide +kernel
theorem kX4_goesAlong_35 : am_dec cX4_goesAlong 35 [.aload_n 0] 36 = true := by decide +kernel
theorem kX4_goesAlong_39 : am_dec cX4_goesAlong 39 [.iload_n 1, .isub, .istore 6, .iload 5] 45 = true := by decide +kernel
theorem kX4_goesAlong_48 : am_dec cX4_goesAlong 48 [.aload_n 0] 49 = true := by decide +kernel
theorem kX4_goesAlong_55 : am_dec cX4_goesAlong 55 [.aload_n 0] 56 = true := by decide +kernel
theorem kX4_goesAlong_59 : am_dec cX4_goesAlong 59 [.iload_n 2, .isub, .istore 7, .iload_n 3, .iload_n 1, .isub, .istore 8, .iload 4, .iload_n 2, .isub, .istore 9, .iload 6, .iload 9, .imul, .iload 7, .iload 8, .imul] 84 = true := by decide +kernel
theorem kX4_goesAlong_87 : am_dec cX4_goesAlong 87 [.iload 6, .iload 8, .imul, .iload 7, .iload 9, .imul, .iadd] 98 = true := by decide +kernel
theorem kX4_goesAlong_101 : am_dec cX4_goesAlong 101 [.iconst 1] 102 = true := by decide +kernel
theorem kX4_goesAlong_105 : am_dec cX4_goesAlong 105 [.iconst 0] 106 = true := by decide +kernel
theorem eX4_goesAlong_2 : decode cX4_goesAlong 2 = .ok (.getfield 9, 3) := by decide +kernel
theorem eX4_goesAlong_5 : decode cX4_goesAlong 5 = .ok (.if_icmp .ne 15, 3) := by decide +kernel
theorem eX4_goesAlong_10 : decode cX4_goesAlong 10 = .ok (.getfield 15, 3) := by decide +kernel
theorem eX4_goesAlong_13 : decode cX4_goesAlong 13 = .ok (.if_icmp .ne 7, 3) := by decide +kernel
theorem eX4_goesAlong_17 : decode cX4_goesAlong 17 = .ok (.goto 4, 3) := by decide +kernel
theorem eX4_goesAlong_25 : decode cX4_goesAlong 25 = .ok (.ifCond .eq 10, 3) := by decide +kernel
theorem eX4_goesAlong_29 : decode cX4_goesAlong 29 = .ok (.getfield 18, 3) := by decide +kernel
theorem eX4_goesAlong_32 : decode cX4_goesAlong 32 = .ok (.goto 7, 3) := by decide +kernel
theorem eX4_goesAlong_36 : decode cX4_goesAlong 36 = .ok (.getfield 9, 3) := by decide +kernel
theorem eX4_goesAlong_45 : decode cX4_goesAlong 45 = .ok (.ifCond .eq 10, 3) := by decide +kernel
theorem eX4_goesAlong_49 : decode cX4_goesAlong 49 = .ok (.getfield 21, 3) := by decide +kernel
theorem eX4_goesAlong_52 : decode cX4_goesAlong 52 = .ok (.goto 7, 3) := by decide +kernel
theorem eX4_goesAlong_56 : decode cX4_goesAlong 56 = .ok (.getfield 15, 3) := by decide +kernel
theorem eX4_goesAlong_84 : decode cX4_goesAlong 84 = .ok (.if_icmp .ne 21, 3) := by decide +kernel
theorem eX4_goesAlong_98 : decode cX4_goesAlong 98 = .ok (.ifCond .le 7, 3) := by decide +kernel
theorem eX4_goesAlong_102 : decode cX4_goesAlong 102 = .ok (.goto 4, 3) := by decide +kernel
theorem eX4_goesAlong_106 : decode cX4_goesAlong 106 = .ok (.ireturn, 1) := by decide +kernel
theorem kX5_init_0 : am_dec cX5_init 0 [.aload_n 0] 1 = true := by decide +kernel
theorem kX5_init_4 : am_dec cX5_init 4 [.aload_n 0, .iconst 5] 6 = true := by decide +kernel
theorem kX5_init_11 : am_dec cX5_init 11 [.aload_n 0, .bipush 16] 14 = true := by decide +kernel
theorem kX5_init_19 : am_dec cX5_init 19 [.aload_n 0, .iconst 0] 21 = true := by decide +kernel
theorem kX5_init_24 : am_dec cX5_init 24 [.aload_n 0, .aload_n 1] 26 = true := by decide +kernel
theorem eX5_init_1 : decode cX5_init 1 = .ok (.invokespecial 3, 3) := by decide +kernel
theorem eX5_init_6 : decode cX5_init 6 = .ok (.newarray .int, 2) := by decide +kernel
theorem eX5_init_8 : decode cX5_init 8 = .ok (.putfield 9, 3) := by decide +kernel
theorem eX5_init_14 : decode cX5_init 14 = .ok (.newarray .int, 2) := by decide +kernel
theorem eX5_init_16 : decode cX5_init 16 = .ok (.putfield 15, 3) := by decide +kernel
theorem eX5_init_21 : decode cX5_init 21 = .ok (.putfield 18, 3) := by decide +kernel
theorem eX5_init_26 : decode cX5_init 26 = .ok (.putfield 22, 3) := by decide +kernel
theorem eX5_init_29 : decode cX5_init 29 = .ok (.return_, 1) := by decide +kernel
theorem kX5_sumOf_0 : am_dec cX5_sumOf 0 [.iconst 0, .istore_n 2, .iconst 0, .istore_n 3] 4 = true := by decide +kernel
theorem kX5_sumOf_4 : am_dec cX5_sumOf 4 [.iload_n 3, .aload_n 0] 6 = true := by decide +kernel
theorem kX5_sumOf_15 : am_dec cX5_sumOf 15 [.aload_n 0] 16 = true := by decide +kernel
theorem kX5_sumOf_19 : am_dec cX5_sumOf 19 [.iload_n 3] 20 = true := by decide +kernel
theorem kX5_sumOf_23 : am_dec cX5_sumOf 23 [.astore 4, .aload 4] 27 = true := by decide +kernel
theorem kX5_sumOf_33 : am_dec cX5_sumOf 33 [.aload 4] 35 = true := by decide +kernel
theorem kX5_sumOf_38 : am_dec cX5_sumOf 38 [.iload_n 1] 39 = true := by decide +kernel
theorem kX5_sumOf_42 : am_dec cX5_sumOf 42 [.iload_n 2, .aload_n 0, .iload_n 3] 45 = true := by decide +kernel
theorem kX5_sumOf_48 : am_dec cX5_sumOf 48 [.iadd, .istore_n 2] 50 = true := by decide +kernel
theorem kX5_sumOf_50 : am_dec cX5_sumOf 50 [.iinc 3 1] 53 = true := by decide +kernel
theorem kX5_sumOf_56 : am_dec cX5_sumOf 56 [.iload_n 2] 57 = true := by decide +kernel
theorem eX5_sumOf_6 : decode cX5_sumOf 6 = .ok (.getfield 22, 3) := by decide +kernel
theorem eX5_sumOf_9 : decode cX5_sumOf 9 = .ok (.getfield 26, 3) := by decide +kernel
theorem eX5_sumOf_12 : decode cX5_sumOf 12 = .ok (.if_icmp .ge 44, 3) := by decide +kernel
theorem eX5_sumOf_16 : decode cX5_sumOf 16 = .ok (.getfield 22, 3) := by decide +kernel
theorem eX5_sumOf_20 : decode cX5_sumOf 20 = .ok (.invokevirtual 31, 3) := by decide +kernel
theorem eX5_sumOf_27 : decode cX5_sumOf 27 = .ok (.getfield 35, 3) := by decide +kernel
theorem eX5_sumOf_30 : decode cX5_sumOf 30 = .ok (.ifCond .eq 20, 3) := by decide +kernel
theorem eX5_sumOf_35 : decode cX5_sumOf 35 = .ok (.getfield 41, 3) := by decide +kernel
theorem eX5_sumOf_39 : decode cX5_sumOf 39 = .ok (.if_icmp .ne 11, 3) := by decide +kernel
theorem eX5_sumOf_45 : decode cX5_sumOf 45 = .ok (.invokevirtual 44, 3) := by decide +kernel
theorem eX5_sumOf_53 : decode cX5_sumOf 53 = .ok (.goto (-49), 3) := by decide +kernel
theorem eX5_sumOf_57 : decode cX5_sumOf 57 = .ok (.ireturn, 1) := by decide +kernel
theorem kX5_scoreOf_0 : am_dec cX5_scoreOf 0 [.aload_n 0] 1 = true := by decide +kernel
theorem kX5_scoreOf_4 : am_dec cX5_scoreOf 4 [.iload_n 1] 5 = true := by decide +kernel
theorem kX5_scoreOf_8 : am_dec cX5_scoreOf 8 [.astore_n 2, .aload_n 0, .iconst (-1), .aload_n 2] 12 = true := by decide +kernel
theorem kX5_scoreOf_18 : am_dec cX5_scoreOf 18 [.aload_n 0, .bipush (-2), .aload_n 0] 22 = true := by decide +kernel
theorem kX5_scoreOf_25 : am_dec cX5_scoreOf 25 [.iload_n 1] 26 = true := by decide +kernel
theorem kX5_scoreOf_32 : am_dec cX5_scoreOf 32 [.aload_n 0, .bipush (-3), .aload_n 2] 36 = true := by decide +kernel
theorem kX5_scoreOf_42 : am_dec cX5_scoreOf 42 [.aload_n 0, .bipush (-4), .aload_n 2] 46 = true := by decide +kernel
theorem kX5_scoreOf_52 : am_dec cX5_scoreOf 52 [.aload_n 0, .bipush (-5), .aload_n 2] 56 = true := by decide +kernel
theorem kX5_scoreOf_62 : am_dec cX5_scoreOf 62 [.aload_n 0, .iconst 0] 64 = true := by decide +kernel
theorem kX5_scoreOf_67 : am_dec cX5_scoreOf 67 [.iconst 0, .istore_n 3] 69 = true := by decide +kernel
theorem kX5_scoreOf_69 : am_dec cX5_scoreOf 69 [.iload_n 3, .aload_n 0] 71 = true := by decide +kernel
theorem kX5_scoreOf_81 : am_dec cX5_scoreOf 81 [.aload_n 0, .aload_n 0] 83 = true := by decide +kernel
theorem kX5_scoreOf_89 : am_dec cX5_scoreOf 89 [.iload_n 3] 90 = true := by decide +kernel
theorem kX5_scoreOf_94 : am_dec cX5_scoreOf 94 [.iinc 3 1] 97 = true := by decide +kernel
theorem kX5_scoreOf_100 : am_dec cX5_scoreOf 100 [.aload_n 0] 101 = true := by decide +kernel
theorem eX5_scoreOf_1 : decode cX5_scoreOf 1 = .ok (.getfield 22, 3) := by decide +kernel
theorem eX5_scoreOf_5 : decode cX5_scoreOf 5 = .ok (.invokevirtual 31, 3) := by decide +kernel
theorem eX5_scoreOf_12 : decode cX5_scoreOf 12 = .ok (.invokevirtual 48, 3) := by decide +kernel
theorem eX5_scoreOf_15 : decode cX5_scoreOf 15 = .ok (.invokevirtual 52, 3) := by decide +kernel
theorem eX5_scoreOf_22 : decode cX5_scoreOf 22 = .ok (.getfield 22, 3) := by decide +kernel
theorem eX5_scoreOf_26 : decode cX5_scoreOf 26 = .ok (.invokevirtual 56, 3) := by decide +kernel
theorem eX5_scoreOf_29 : decode cX5_scoreOf 29 = .ok (.invokevirtual 52, 3) := by decide +kernel
theorem eX5_scoreOf_36 : decode cX5_scoreOf 36 = .ok (.getfield 59, 3) := by decide +kernel
theorem eX5_scoreOf_39 : decode cX5_scoreOf 39 = .ok (.invokevirtual 52, 3) := by decide +kernel
theorem eX5_scoreOf_46 : decode cX5_scoreOf 46 = .ok (.invokevirtual 62, 3) := by decide +kernel
theorem eX5_scoreOf_49 : decode cX5_scoreOf 49 = .ok (.invokevirtual 52, 3) := by decide +kernel
theorem eX5_scoreOf_56 : decode cX5_scoreOf 56 = .ok (.invokevirtual 65, 3) := by decide +kernel
theorem eX5_scoreOf_59 : decode cX5_scoreOf 59 = .ok (.invokevirtual 52, 3) := by decide +kernel
theorem eX5_scoreOf_64 : decode cX5_scoreOf 64 = .ok (.putfield 18, 3) := by decide +kernel
theorem eX5_scoreOf_71 : decode cX5_scoreOf 71 = .ok (.getfield 22, 3) := by decide +kernel
theorem eX5_scoreOf_74 : decode cX5_scoreOf 74 = .ok (.getfield 68, 3) := by decide +kernel
theorem eX5_scoreOf_77 : decode cX5_scoreOf 77 = .ok (.arraylength, 1) := by decide +kernel
theorem eX5_scoreOf_78 : decode cX5_scoreOf 78 = .ok (.if_icmp .ge 22, 3) := by decide +kernel
theorem eX5_scoreOf_83 : decode cX5_scoreOf 83 = .ok (.getfield 22, 3) := by decide +kernel
theorem eX5_scoreOf_86 : decode cX5_scoreOf 86 = .ok (.getfield 68, 3) := by decide +kernel
theorem eX5_scoreOf_90 : decode cX5_scoreOf 90 = .ok (.iaload, 1) := by decide +kernel
theorem eX5_scoreOf_91 : decode cX5_scoreOf 91 = .ok (.invokevirtual 71, 3) := by decide +kernel
theorem eX5_scoreOf_97 : decode cX5_scoreOf 97 = .ok (.goto (-28), 3) := by decide +kernel
theorem eX5_scoreOf_101 : decode cX5_scoreOf 101 = .ok (.invokevirtual 75, 3) := by decide +kernel
theorem eX5_scoreOf_104 : decode cX5_scoreOf 104 = .ok (.i2l, 1) := by decide +kernel
theorem eX5_scoreOf_105 : decode cX5_scoreOf 105 = .ok (.ldc 78, 2) := by decide +kernel
theorem eX5_scoreOf_107 : decode cX5_scoreOf 107 = .ok (.invokestatic 79, 3) := by decide +kernel
theorem eX5_scoreOf_110 : decode cX5_scoreOf 110 = .ok (.ireturn, 1) := by decide +kernel
theorem kX5_setFigure_0 : am_dec cX5_setFigure 0 [.iconst (-1), .iload_n 1, .isub, .istore_n 3, .iload_n 3] 5 = true := by decide +kernel
theorem kX5_setFigure_8 : am_dec cX5_setFigure 8 [.iload_n 3, .aload_n 0] 10 = true := by decide +kernel
theorem kX5_setFigure_17 : am_dec cX5_setFigure 17 [.aload_n 0] 18 = true := by decide +kernel
theorem kX5_setFigure_21 : am_dec cX5_setFigure 21 [.iload_n 3, .iload_n 2] 23 = true := by decide +kernel
theorem eX5_setFigure_5 : decode cX5_setFigure 5 = .ok (.ifCond .lt 19, 3) := by decide +kernel
theorem eX5_setFigure_10 : decode cX5_setFigure 10 = .ok (.getfield 9, 3) := by decide +kernel
theorem eX5_setFigure_13 : decode cX5_setFigure 13 = .ok (.arraylength, 1) := by decide +kernel
theorem eX5_setFigure_14 : decode cX5_setFigure 14 = .ok (.if_icmp .ge 10, 3) := by decide +kernel
theorem eX5_setFigure_18 : decode cX5_setFigure 18 = .ok (.getfield 9, 3) := by decide +kernel
theorem eX5_setFigure_23 : decode cX5_setFigure 23 = .ok (.iastore, 1) := by decide +kernel
theorem eX5_setFigure_24 : decode cX5_setFigure 24 = .ok (.return_, 1) := by decide +kernel
theorem kX5_doStep_0 : am_dec cX5_doStep 0 [.iconst (-1), .iload_n 1, .isub, .istore_n 2, .iload_n 2] 5 = true := by decide +kernel
theorem kX5_doStep_8 : am_dec cX5_doStep 8 [.aload_n 0, .iload_n 1] 10 = true := by decide +kernel
theorem kX5_doStep_16 : am_dec cX5_doStep 16 [.iload_n 2, .aload_n 0] 18 = true := by decide +kernel
theorem kX5_doStep_25 : am_dec cX5_doStep 25 [.aload_n 0, .aload_n 0] 27 = true := by decide +kernel
theorem kX5_doStep_30 : am_dec cX5_doStep 30 [.iload_n 2] 31 = true := by decide +kernel
theorem kX5_doStep_38 : am_dec cX5_doStep 38 [.aload_n 0] 39 = true := by decide +kernel
theorem kX5_doStep_42 : am_dec cX5_doStep 42 [.istore_n 3, .aload_n 0] 44 = true := by decide +kernel
theorem kX5_doStep_47 : am_dec cX5_doStep 47 [.istore 4, .aload_n 0, .iload_n 1, .iload 4, .iload_n 3] 54 = true := by decide +kernel
theorem eX5_doStep_5 : decode cX5_doStep 5 = .ok (.ifCond .ge 11, 3) := by decide +kernel
theorem eX5_doStep_10 : decode cX5_doStep 10 = .ok (.invokevirtual 83, 3) := by decide +kernel
theorem eX5_doStep_13 : decode cX5_doStep 13 = .ok (.goto 52, 3) := by decide +kernel
theorem eX5_doStep_18 : decode cX5_doStep 18 = .ok (.getfield 9, 3) := by decide +kernel
theorem eX5_doStep_21 : decode cX5_doStep 21 = .ok (.arraylength, 1) := by decide +kernel
theorem eX5_doStep_22 : decode cX5_doStep 22 = .ok (.if_icmp .ge 16, 3) := by decide +kernel
theorem eX5_doStep_27 : decode cX5_doStep 27 = .ok (.getfield 9, 3) := by decide +kernel
theorem eX5_doStep_31 : decode cX5_doStep 31 = .ok (.iaload, 1) := by decide +kernel
theorem eX5_doStep_32 : decode cX5_doStep 32 = .ok (.invokevirtual 83, 3) := by decide +kernel
theorem eX5_doStep_35 : decode cX5_doStep 35 = .ok (.goto 30, 3) := by decide +kernel
theorem eX5_doStep_39 : decode cX5_doStep 39 = .ok (.invokevirtual 75, 3) := by decide +kernel
theorem eX5_doStep_44 : decode cX5_doStep 44 = .ok (.invokevirtual 75, 3) := by decide +kernel
theorem eX5_doStep_54 : decode cX5_doStep 54 = .ok (.invokestatic 86, 3) := by decide +kernel
theorem eX5_doStep_57 : decode cX5_doStep 57 = .ok (.ldc 90, 2) := by decide +kernel
theorem eX5_doStep_59 : decode cX5_doStep 59 = .ok (.invokestatic 79, 3) := by decide +kernel
theorem eX5_doStep_62 : decode cX5_doStep 62 = .ok (.invokevirtual 83, 3) := by decide +kernel
theorem eX5_doStep_65 : decode cX5_doStep 65 = .ok (.return_, 1) := by decide +kernel
theorem kX5_resultOf_0 : am_dec cX5_resultOf 0 [.iload_n 0] 1 = true := by decide +kernel
theorem kX5_resultOf_28 : am_dec cX5_resultOf 28 [.iload_n 1] 29 = true := by decide +kernel
theorem kX5_resultOf_30 : am_dec cX5_resultOf 30 [.iload_n 2] 31 = true := by decide +kernel
theorem kX5_resultOf_32 : am_dec cX5_resultOf 32 [.ladd] 33 = true := by decide +kernel
theorem kX5_resultOf_34 : am_dec cX5_resultOf 34 [.iload_n 1] 35 = true := by decide +kernel
theorem kX5_resultOf_36 : am_dec cX5_resultOf 36 [.iload_n 2] 37 = true := by decide +kernel
theorem kX5_resultOf_38 : am_dec cX5_resultOf 38 [.lsub] 39 = true := by decide +kernel
theorem kX5_resultOf_40 : am_dec cX5_resultOf 40 [.iload_n 1] 41 = true := by decide +kernel
theorem kX5_resultOf_42 : am_dec cX5_resultOf 42 [.iload_n 2] 43 = true := by decide +kernel
theorem kX5_resultOf_44 : am_dec cX5_resultOf 44 [.lmul] 45 = true := by decide +kernel
theorem kX5_resultOf_46 : am_dec cX5_resultOf 46 [.iload_n 2] 47 = true := by decide +kernel
theorem kX5_resultOf_50 : am_dec cX5_resultOf 50 [.lconst 0] 51 = true := by decide +kernel
theorem kX5_resultOf_54 : am_dec cX5_resultOf 54 [.iload_n 1, .iload_n 2] 56 = true := by decide +kernel
theorem eX5_resultOf_1 : decode cX5_resultOf 1 = .ok (.tableswitch 45 (-8) (-6) #[39, 33, 27], 27) := by decide +kernel
theorem eX5_resultOf_29 : decode cX5_resultOf 29 = .ok (.i2l, 1) := by decide +kernel
theorem eX5_resultOf_31 : decode cX5_resultOf 31 = .ok (.i2l, 1) := by decide +kernel
theorem eX5_resultOf_33 : decode cX5_resultOf 33 = .ok (.lreturn, 1) := by decide +kernel
theorem eX5_resultOf_35 : decode cX5_resultOf 35 = .ok (.i2l, 1) := by decide +kernel
theorem eX5_resultOf_37 : decode cX5_resultOf 37 = .ok (.i2l, 1) := by decide +kernel
theorem eX5_resultOf_39 : decode cX5_resultOf 39 = .ok (.lreturn, 1) := by decide +kernel
theorem eX5_resultOf_41 : decode cX5_resultOf 41 = .ok (.i2l, 1) := by decide +kernel
theorem eX5_resultOf_43 : decode cX5_resultOf 43 = .ok (.i2l, 1) := by decide +kernel
theorem eX5_resultOf_45 : decode cX5_resultOf 45 = .ok (.lreturn, 1) := by decide +kernel
theorem eX5_resultOf_47 : decode cX5_resultOf 47 = .ok (.ifCond .ne 7, 3) := by decide +kernel
theorem eX5_resultOf_51 : decode cX5_resultOf 51 = .ok (.goto 7, 3) := by decide +kernel
theorem eX5_resultOf_56 : decode cX5_resultOf 56 = .ok (.idiv, 1) := by decide +kernel
theorem eX5_resultOf_57 : decode cX5_resultOf 57 = .ok (.i2l, 1) := by decide +kernel
theorem eX5_resultOf_58 : decode cX5_resultOf 58 = .ok (.lreturn, 1) := by decide +kernel
theorem kX5_limited_0 : am_dec cX5_limited 0 [.iload_n 2, .ineg] 2 = true := by decide +kernel
theorem kX5_limited_3 : am_dec cX5_limited 3 [.iload_n 2] 4 = true := by decide +kernel
theorem kX5_limited_5 : am_dec cX5_limited 5 [.lload_n 0] 6 = true := by decide +kernel
theorem eX5_limited_2 : decode cX5_limited 2 = .ok (.i2l, 1) := by decide +kernel
theorem eX5_limited_4 : decode cX5_limited 4 = .ok (.i2l, 1) := by decide +kernel
theorem eX5_limited_6 : decode cX5_limited 6 = .ok (.invokestatic 91, 3) := by decide +kernel
theorem eX5_limited_9 : decode cX5_limited 9 = .ok (.invokestatic 97, 3) := by decide +kernel
theorem eX5_limited_12 : decode cX5_limited 12 = .ok (.l2i, 1) := by decide +kernel
theorem eX5_limited_13 : decode cX5_limited 13 = .ok (.ireturn, 1) := by decide +kernel
theorem kX5_push_0 : am_dec cX5_push 0 [.aload_n 0] 1 = true := by decide +kernel
theorem kX5_push_7 : am_dec cX5_push 7 [.aload_n 0] 8 = true := by decide +kernel
theorem kX5_push_11 : am_dec cX5_push 11 [.aload_n 0] 12 = true := by decide +kernel
theorem kX5_push_19 : am_dec cX5_push 19 [.aload_n 0] 20 = true := by decide +kernel
theorem kX5_push_23 : am_dec cX5_push 23 [.aload_n 0] 24 = true := by decide +kernel
theorem kX5_push_27 : am_dec cX5_push 27 [.iload_n 1] 28 = true := by decide +kernel
theorem kX5_push_29 : am_dec cX5_push 29 [.aload_n 0, .dup] 31 = true := by decide +kernel
theorem kX5_push_34 : am_dec cX5_push 34 [.iconst 1, .iadd] 36 = true := by decide +kernel
theorem eX5_push_1 : decode cX5_push 1 = .ok (.getfield 18, 3) := by decide +kernel
theorem eX5_push_4 : decode cX5_push 4 = .ok (.ifCond .lt 35, 3) := by decide +kernel
theorem eX5_push_8 : decode cX5_push 8 = .ok (.getfield 18, 3) := by decide +kernel
theorem eX5_push_12 : decode cX5_push 12 = .ok (.getfield 15, 3) := by decide +kernel
theorem eX5_push_15 : decode cX5_push 15 = .ok (.arraylength, 1) := by decide +kernel
theorem eX5_push_16 : decode cX5_push 16 = .ok (.if_icmp .ge 23, 3) := by decide +kernel
theorem eX5_push_20 : decode cX5_push 20 = .ok (.getfield 15, 3) := by decide +kernel
theorem eX5_push_24 : decode cX5_push 24 = .ok (.getfield 18, 3) := by decide +kernel
theorem eX5_push_28 : decode cX5_push 28 = .ok (.iastore, 1) := by decide +kernel
theorem eX5_push_31 : decode cX5_push 31 = .ok (.getfield 18, 3) := by decide +kernel
theorem eX5_push_36 : decode cX5_push 36 = .ok (.putfield 18, 3) := by decide +kernel
theorem eX5_push_39 : decode cX5_push 39 = .ok (.return_, 1) := by decide +kernel
theorem kX5_pop_0 : am_dec cX5_pop 0 [.aload_n 0] 1 = true := by decide +kernel
theorem kX5_pop_7 : am_dec cX5_pop 7 [.aload_n 0] 8 = true := by decide +kernel
theorem kX5_pop_11 : am_dec cX5_pop 11 [.aload_n 0] 12 = true := by decide +kernel
theorem kX5_pop_19 : am_dec cX5_pop 19 [.iconst 0] 20 = true := by decide +kernel
theorem kX5_pop_21 : am_dec cX5_pop 21 [.aload_n 0, .dup] 23 = true := by decide +kernel
theorem kX5_pop_26 : am_dec cX5_pop 26 [.iconst 1, .isub] 28 = true := by decide +kernel
theorem kX5_pop_31 : am_dec cX5_pop 31 [.aload_n 0] 32 = true := by decide +kernel
theorem kX5_pop_35 : am_dec cX5_pop 35 [.aload_n 0] 36 = true := by decide +kernel
theorem eX5_pop_1 : decode cX5_pop 1 = .ok (.getfield 18, 3) := by decide +kernel
theorem eX5_pop_4 : decode cX5_pop 4 = .ok (.ifCond .le 15, 3) := by decide +kernel
theorem eX5_pop_8 : decode cX5_pop 8 = .ok (.getfield 18, 3) := by decide +kernel
theorem eX5_pop_12 : decode cX5_pop 12 = .ok (.getfield 15, 3) := by decide +kernel
theorem eX5_pop_15 : decode cX5_pop 15 = .ok (.arraylength, 1) := by decide +kernel
theorem eX5_pop_16 : decode cX5_pop 16 = .ok (.if_icmp .le 5, 3) := by decide +kernel
theorem eX5_pop_20 : decode cX5_pop 20 = .ok (.ireturn, 1) := by decide +kernel
theorem eX5_pop_23 : decode cX5_pop 23 = .ok (.getfield 18, 3) := by decide +kernel
theorem eX5_pop_28 : decode cX5_pop 28 = .ok (.putfield 18, 3) := by decide +kernel
theorem eX5_pop_32 : decode cX5_pop 32 = .ok (.getfield 15, 3) := by decide +kernel
theorem eX5_pop_36 : decode cX5_pop 36 = .ok (.getfield 18, 3) := by decide +kernel
theorem eX5_pop_39 : decode cX5_pop 39 = .ok (.iaload, 1) := by decide +kernel
theorem eX5_pop_40 : decode cX5_pop 40 = .ok (.ireturn, 1) := by decide +kernel
theorem kX6_init_0 : am_dec cX6_init 0 [.aload_n 0] 1 = true := by decide +kernel
theorem kX6_init_4 : am_dec cX6_init 4 [.aload_n 0, .sipush 801] 8 = true := by decide +kernel
theorem kX6_init_13 : am_dec cX6_init 13 [.aload_n 0, .sipush 801] 17 = true := by decide +kernel
theorem kX6_init_22 : am_dec cX6_init 22 [.aload_n 0, .sipush 801] 26 = true := by decide +kernel
theorem kX6_init_31 : am_dec cX6_init 31 [.aload_n 0, .sipush 800] 35 = true := by decide +kernel
theorem kX6_init_40 : am_dec cX6_init 40 [.aload_n 0, .iconst 0] 42 = true := by decide +kernel
theorem kX6_init_45 : am_dec cX6_init 45 [.aload_n 0, .iconst 0] 47 = true := by decide +kernel
theorem kX6_init_50 : am_dec cX6_init 50 [.aload_n 0, .iconst 0] 52 = true := by decide +kernel
theorem kX6_init_55 : am_dec cX6_init 55 [.aload_n 0, .iconst 0] 57 = true := by decide +kernel
theorem kX6_init_60 : am_dec cX6_init 60 [.aload_n 0, .iconst 0] 62 = true := by decide +kernel
theorem kX6_init_65 : am_dec cX6_init 65 [.aload_n 0, .iconst 0] 67 = true := by decide +kernel
theorem kX6_init_70 : am_dec cX6_init 70 [.aload_n 0, .iconst 0] 72 = true := by decide +kernel
theorem kX6_init_75 : am_dec cX6_init 75 [.aload_n 0, .iconst (-1)] 77 = true := by decide +kernel
theorem kX6_init_80 : am_dec cX6_init 80 [.aload_n 0, .aload_n 1] 82 = true := by decide +kernel
theorem kX6_init_85 : am_dec cX6_init 85 [.aload_n 0, .aload_n 2] 87 = true := by decide +kernel
theorem kX6_init_90 : am_dec cX6_init 90 [.aload_n 0, .aload_n 3] 92 = true := by decide +kernel
theorem eX6_init_1 : decode cX6_init 1 = .ok (.invokespecial 3, 3) := by decide +kernel
theorem eX6_init_8 : decode cX6_init 8 = .ok (.newarray .int, 2) := by decide +kernel
theorem eX6_init_10 : decode cX6_init 10 = .ok (.putfield 9, 3) := by decide +kernel
theorem eX6_init_17 : decode cX6_init 17 = .ok (.newarray .int, 2) := by decide +kernel
theorem eX6_init_19 : decode cX6_init 19 = .ok (.putfield 15, 3) := by decide +kernel
theorem eX6_init_26 : decode cX6_init 26 = .ok (.newarray .int, 2) := by decide +kernel
theorem eX6_init_28 : decode cX6_init 28 = .ok (.putfield 18, 3) := by decide +kernel
theorem eX6_init_35 : decode cX6_init 35 = .ok (.newarray .int, 2) := by decide +kernel
theorem eX6_init_37 : decode cX6_init 37 = .ok (.putfield 21, 3) := by decide +kernel
theorem eX6_init_42 : decode cX6_init 42 = .ok (.putfield 24, 3) := by decide +kernel
theorem eX6_init_47 : decode cX6_init 47 = .ok (.putfield 28, 3) := by decide +kernel
theorem eX6_init_52 : decode cX6_init 52 = .ok (.putfield 31, 3) := by decide +kernel
theorem eX6_init_57 : decode cX6_init 57 = .ok (.putfield 34, 3) := by decide +kernel
theorem eX6_init_62 : decode cX6_init 62 = .ok (.putfield 37, 3) := by decide +kernel
theorem eX6_init_67 : decode cX6_init 67 = .ok (.putfield 40, 3) := by decide +kernel
theorem eX6_init_72 : decode cX6_init 72 = .ok (.putfield 44, 3) := by decide +kernel
theorem eX6_init_77 : decode cX6_init 77 = .ok (.putfield 47, 3) := by decide +kernel
theorem eX6_init_82 : decode cX6_init 82 = .ok (.putfield 50, 3) := by decide +kernel
theorem eX6_init_87 : decode cX6_init 87 = .ok (.putfield 54, 3) := by decide +kernel
theorem eX6_init_92 : decode cX6_init 92 = .ok (.putfield 58, 3) := by decide +kernel
theorem eX6_init_95 : decode cX6_init 95 = .ok (.return_, 1) := by decide +kernel
theorem kX6_read_0 : am_dec cX6_read 0 [.aload_n 0, .iconst 0] 2 = true := by decide +kernel
theorem kX6_read_5 : am_dec cX6_read 5 [.aload_n 0, .iconst 0] 7 = true := by decide +kernel
theorem kX6_read_10 : am_dec cX6_read 10 [.aload_n 0, .iconst 0] 12 = true := by decide +kernel
theorem kX6_read_15 : am_dec cX6_read 15 [.aload_n 0, .iconst (-1)] 17 = true := by decide +kernel
theorem kX6_read_20 : am_dec cX6_read 20 [.aload_n 0, .iload_n 1] 22 = true := by decide +kernel
theorem kX6_read_25 : am_dec cX6_read 25 [.aload_n 0] 26 = true := by decide +kernel
theorem kX6_read_29 : am_dec cX6_read 29 [.istore_n 2, .iconst 0, .istore_n 3] 32 = true := by decide +kernel
theorem kX6_read_32 : am_dec cX6_read 32 [.iload_n 3, .sipush 800] 36 = true := by decide +kernel
theorem kX6_read_39 : am_dec cX6_read 39 [.iload_n 2] 40 = true := by decide +kernel
theorem kX6_read_43 : am_dec cX6_read 43 [.aload_n 0] 44 = true := by decide +kernel
theorem kX6_read_50 : am_dec cX6_read 50 [.aload_n 0] 51 = true := by decide +kernel
theorem kX6_read_80 : am_dec cX6_read 80 [.aload_n 0] 81 = true := by decide +kernel
theorem kX6_read_84 : am_dec cX6_read 84 [.istore_n 2] 85 = true := by decide +kernel
theorem kX6_read_88 : am_dec cX6_read 88 [.aload_n 0] 89 = true := by decide +kernel
theorem kX6_read_92 : am_dec cX6_read 92 [.istore_n 2] 93 = true := by decide +kernel
theorem kX6_read_96 : am_dec cX6_read 96 [.aload_n 0] 97 = true := by decide +kernel
theorem kX6_read_100 : am_dec cX6_read 100 [.istore_n 2] 101 = true := by decide +kernel
theorem kX6_read_104 : am_dec cX6_read 104 [.aload_n 0, .bipush (-2)] 107 = true := by decide +kernel
theorem kX6_read_110 : am_dec cX6_read 110 [.istore_n 2] 111 = true := by decide +kernel
theorem kX6_read_111 : am_dec cX6_read 111 [.iinc 3 1] 114 = true := by decide +kernel
theorem kX6_read_117 : am_dec cX6_read 117 [.iload_n 2] 118 = true := by decide +kernel
theorem eX6_read_2 : decode cX6_read 2 = .ok (.putfield 28, 3) := by decide +kernel
theorem eX6_read_7 : decode cX6_read 7 = .ok (.putfield 40, 3) := by decide +kernel
theorem eX6_read_12 : decode cX6_read 12 = .ok (.putfield 44, 3) := by decide +kernel
theorem eX6_read_17 : decode cX6_read 17 = .ok (.putfield 47, 3) := by decide +kernel
theorem eX6_read_22 : decode cX6_read 22 = .ok (.invokevirtual 62, 3) := by decide +kernel
theorem eX6_read_26 : decode cX6_read 26 = .ok (.invokevirtual 66, 3) := by decide +kernel
theorem eX6_read_36 : decode cX6_read 36 = .ok (.if_icmp .ge 81, 3) := by decide +kernel
theorem eX6_read_40 : decode cX6_read 40 = .ok (.ifCond .eq 77, 3) := by decide +kernel
theorem eX6_read_44 : decode cX6_read 44 = .ok (.invokevirtual 70, 3) := by decide +kernel
theorem eX6_read_47 : decode cX6_read 47 = .ok (.ifCond .eq 70, 3) := by decide +kernel
theorem eX6_read_51 : decode cX6_read 51 = .ok (.invokevirtual 70, 3) := by decide +kernel
theorem eX6_read_54 : decode cX6_read 54 = .ok (.tableswitch 50 4 6 #[26, 34, 42], 26) := by decide +kernel
theorem eX6_read_81 : decode cX6_read 81 = .ok (.invokevirtual 74, 3) := by decide +kernel
theorem eX6_read_85 : decode cX6_read 85 = .ok (.goto 26, 3) := by decide +kernel
theorem eX6_read_89 : decode cX6_read 89 = .ok (.invokevirtual 77, 3) := by decide +kernel
theorem eX6_read_93 : decode cX6_read 93 = .ok (.goto 18, 3) := by decide +kernel
theorem eX6_read_97 : decode cX6_read 97 = .ok (.invokevirtual 80, 3) := by decide +kernel
theorem eX6_read_101 : decode cX6_read 101 = .ok (.goto 10, 3) := by decide +kernel
theorem eX6_read_107 : decode cX6_read 107 = .ok (.invokevirtual 83, 3) := by decide +kernel
theorem eX6_read_114 : decode cX6_read 114 = .ok (.goto (-82), 3) := by decide +kernel
theorem eX6_read_118 : decode cX6_read 118 = .ok (.ireturn, 1) := by decide +kernel
theorem kX6_splitIntoTokens_0 : am_dec cX6_splitIntoTokens 0 [.aload_n 0, .iconst 0] 2 = true := by decide +kernel
theorem kX6_splitIntoTokens_5 : am_dec cX6_splitIntoTokens 5 [.iconst 0, .istore_n 2, .iconst 0, .istore_n 3] 9 = true := by decide +kernel
theorem kX6_splitIntoTokens_9 : am_dec cX6_splitIntoTokens 9 [.iload_n 3, .sipush 800] 13 = true := by decide +kernel
theorem kX6_splitIntoTokens_16 : am_dec cX6_splitIntoTokens 16 [.iload_n 2, .iload_n 1] 18 = true := by decide +kernel
theorem kX6_splitIntoTokens_21 : am_dec cX6_splitIntoTokens 21 [.aload_n 0, .iload_n 2] 23 = true := by decide +kernel
theorem kX6_splitIntoTokens_26 : am_dec cX6_splitIntoTokens 26 [.istore 4, .iload_n 2, .iconst 1, .iadd, .istore 5, .iload 4] 35 = true := by decide +kernel
theorem kX6_splitIntoTokens_41 : am_dec cX6_splitIntoTokens 41 [.aload_n 0, .iload_n 2, .iload_n 1, .bipush 48, .bipush 57] 48 = true := by decide +kernel
theorem kX6_splitIntoTokens_51 : am_dec cX6_splitIntoTokens 51 [.istore 5, .aload_n 0, .iconst 2, .iload_n 2, .aload_n 0, .iload_n 2, .iload 5] 60 = true := by decide +kernel
theorem kX6_splitIntoTokens_69 : am_dec cX6_splitIntoTokens 69 [.iload 4, .bipush 97] 73 = true := by decide +kernel
theorem kX6_splitIntoTokens_76 : am_dec cX6_splitIntoTokens 76 [.iload 4, .bipush 122] 80 = true := by decide +kernel
theorem kX6_splitIntoTokens_83 : am_dec cX6_splitIntoTokens 83 [.aload_n 0, .iload_n 2, .iload_n 1, .bipush 97, .bipush 122] 90 = true := by decide +kernel
theorem kX6_splitIntoTokens_93 : am_dec cX6_splitIntoTokens 93 [.istore 5, .aload_n 0, .aload_n 0, .iload_n 2, .iload 5] 100 = true := by decide +kernel
theorem kX6_splitIntoTokens_103 : am_dec cX6_splitIntoTokens 103 [.iload_n 2, .iconst 0] 105 = true := by decide +kernel
theorem kX6_splitIntoTokens_111 : am_dec cX6_splitIntoTokens 111 [.iload 4, .bipush 32] 115 = true := by decide +kernel
theorem kX6_splitIntoTokens_118 : am_dec cX6_splitIntoTokens 118 [.aload_n 0, .iload 4] 121 = true := by decide +kernel
theorem kX6_splitIntoTokens_124 : am_dec cX6_splitIntoTokens 124 [.iload_n 2, .iconst 0] 126 = true := by decide +kernel
theorem kX6_splitIntoTokens_129 : am_dec cX6_splitIntoTokens 129 [.iload 5, .istore_n 2, .iinc 3 1] 135 = true := by decide +kernel
theorem kX6_splitIntoTokens_138 : am_dec cX6_splitIntoTokens 138 [.aload_n 0, .iconst 0, .iload_n 1, .iconst 0] 142 = true := by decide +kernel
theorem eX6_splitIntoTokens_2 : decode cX6_splitIntoTokens 2 = .ok (.putfield 24, 3) := by decide +kernel
theorem eX6_splitIntoTokens_13 : decode cX6_splitIntoTokens 13 = .ok (.if_icmp .ge 125, 3) := by decide +kernel
theorem eX6_splitIntoTokens_18 : decode cX6_splitIntoTokens 18 = .ok (.if_icmp .ge 120, 3) := by decide +kernel
theorem eX6_splitIntoTokens_23 : decode cX6_splitIntoTokens 23 = .ok (.invokevirtual 87, 3) := by decide +kernel
theorem eX6_splitIntoTokens_35 : decode cX6_splitIntoTokens 35 = .ok (.invokestatic 91, 3) := by decide +kernel
theorem eX6_splitIntoTokens_38 : decode cX6_splitIntoTokens 38 = .ok (.ifCond .eq 31, 3) := by decide +kernel
theorem eX6_splitIntoTokens_48 : decode cX6_splitIntoTokens 48 = .ok (.invokevirtual 94, 3) := by decide +kernel
theorem eX6_splitIntoTokens_60 : decode cX6_splitIntoTokens 60 = .ok (.invokevirtual 98, 3) := by decide +kernel
theorem eX6_splitIntoTokens_63 : decode cX6_splitIntoTokens 63 = .ok (.invokevirtual 102, 3) := by decide +kernel
theorem eX6_splitIntoTokens_66 : decode cX6_splitIntoTokens 66 = .ok (.goto 63, 3) := by decide +kernel
theorem eX6_splitIntoTokens_73 : decode cX6_splitIntoTokens 73 = .ok (.if_icmp .lt 38, 3) := by decide +kernel
theorem eX6_splitIntoTokens_80 : decode cX6_splitIntoTokens 80 = .ok (.if_icmp .gt 31, 3) := by decide +kernel
theorem eX6_splitIntoTokens_90 : decode cX6_splitIntoTokens 90 = .ok (.invokevirtual 94, 3) := by decide +kernel
theorem eX6_splitIntoTokens_100 : decode cX6_splitIntoTokens 100 = .ok (.invokevirtual 106, 3) := by decide +kernel
theorem eX6_splitIntoTokens_105 : decode cX6_splitIntoTokens 105 = .ok (.invokevirtual 102, 3) := by decide +kernel
theorem eX6_splitIntoTokens_108 : decode cX6_splitIntoTokens 108 = .ok (.goto 21, 3) := by decide +kernel
theorem eX6_splitIntoTokens_115 : decode cX6_splitIntoTokens 115 = .ok (.if_icmp .eq 14, 3) := by decide +kernel
theorem eX6_splitIntoTokens_121 : decode cX6_splitIntoTokens 121 = .ok (.invokestatic 109, 3) := by decide +kernel
theorem eX6_splitIntoTokens_126 : decode cX6_splitIntoTokens 126 = .ok (.invokevirtual 102, 3) := by decide +kernel
theorem eX6_splitIntoTokens_135 : decode cX6_splitIntoTokens 135 = .ok (.goto (-126), 3) := by decide +kernel
theorem eX6_splitIntoTokens_142 : decode cX6_splitIntoTokens 142 = .ok (.invokevirtual 102, 3) := by decide +kernel
theorem eX6_splitIntoTokens_145 : decode cX6_splitIntoTokens 145 = .ok (.return_, 1) := by decide +kernel
theorem kX6_byteAt_0 : am_dec cX6_byteAt 0 [.iload_n 1] 1 = true := by decide +kernel
theorem kX6_byteAt_4 : am_dec cX6_byteAt 4 [.iload_n 1, .aload_n 0] 6 = true := by decide +kernel
theorem kX6_byteAt_13 : am_dec cX6_byteAt 13 [.aload_n 0] 14 = true := by decide +kernel
theorem kX6_byteAt_17 : am_dec cX6_byteAt 17 [.iload_n 1] 18 = true := by decide +kernel
theorem kX6_byteAt_22 : am_dec cX6_byteAt 22 [.iconst 0] 23 = true := by decide +kernel
theorem eX6_byteAt_1 : decode cX6_byteAt 1 = .ok (.ifCond .lt 21, 3) := by decide +kernel
theorem eX6_byteAt_6 : decode cX6_byteAt 6 = .ok (.getfield 50, 3) := by decide +kernel
theorem eX6_byteAt_9 : decode cX6_byteAt 9 = .ok (.arraylength, 1) := by decide +kernel
theorem eX6_byteAt_10 : decode cX6_byteAt 10 = .ok (.if_icmp .ge 12, 3) := by decide +kernel
theorem eX6_byteAt_14 : decode cX6_byteAt 14 = .ok (.getfield 50, 3) := by decide +kernel
theorem eX6_byteAt_18 : decode cX6_byteAt 18 = .ok (.baload, 1) := by decide +kernel
theorem eX6_byteAt_19 : decode cX6_byteAt 19 = .ok (.goto 4, 3) := by decide +kernel
theorem eX6_byteAt_23 : decode cX6_byteAt 23 = .ok (.ireturn, 1) := by decide +kernel
theorem kX6_isDigit_0 : am_dec cX6_isDigit 0 [.iload_n 0, .bipush 48] 3 = true := by decide +kernel
theorem kX6_isDigit_6 : am_dec cX6_isDigit 6 [.iload_n 0, .bipush 57] 9 = true := by decide +kernel
theorem kX6_isDigit_12 : am_dec cX6_isDigit 12 [.iconst 1] 13 = true := by decide +kernel
theorem kX6_isDigit_16 : am_dec cX6_isDigit 16 [.iconst 0] 17 = true := by decide +kernel
theorem eX6_isDigit_3 : decode cX6_isDigit 3 = .ok (.if_icmp .lt 13, 3) := by decide +kernel
theorem eX6_isDigit_9 : decode cX6_isDigit 9 = .ok (.if_icmp .gt 7, 3) := by decide +kernel
theorem eX6_isDigit_13 : decode cX6_isDigit 13 = .ok (.goto 4, 3) := by decide +kernel
theorem eX6_isDigit_17 : decode cX6_isDigit 17 = .ok (.ireturn, 1) := by decide +kernel
theorem kX6_endOfRun_0 : am_dec cX6_endOfRun 0 [.iload_n 1, .istore 5, .iconst 0, .istore 6] 6 = true := by decide +kernel
theorem kX6_endOfRun_6 : am_dec cX6_endOfRun 6 [.iload 6, .sipush 800] 11 = true := by decide +kernel
theorem kX6_endOfRun_14 : am_dec cX6_endOfRun 14 [.iload 5, .iload_n 2] 17 = true := by decide +kernel
theorem kX6_endOfRun_20 : am_dec cX6_endOfRun 20 [.aload_n 0, .iload 5] 23 = true := by decide +kernel
theorem kX6_endOfRun_26 : am_dec cX6_endOfRun 26 [.istore 7, .iload 7, .iload_n 3] 31 = true := by decide +kernel
theorem kX6_endOfRun_34 : am_dec cX6_endOfRun 34 [.iload 7, .iload 4] 38 = true := by decide +kernel
theorem kX6_endOfRun_41 : am_dec cX6_endOfRun 41 [.iload 5] 43 = true := by decide +kernel
theorem kX6_endOfRun_44 : am_dec cX6_endOfRun 44 [.iinc 5 1, .iinc 6 1] 50 = true := by decide +kernel
theorem kX6_endOfRun_53 : am_dec cX6_endOfRun 53 [.iload 5] 55 = true := by decide +kernel
theorem eX6_endOfRun_11 : decode cX6_endOfRun 11 = .ok (.if_icmp .ge 42, 3) := by decide +kernel
theorem eX6_endOfRun_17 : decode cX6_endOfRun 17 = .ok (.if_icmp .ge 36, 3) := by decide +kernel
theorem eX6_endOfRun_23 : decode cX6_endOfRun 23 = .ok (.invokevirtual 87, 3) := by decide +kernel
theorem eX6_endOfRun_31 : decode cX6_endOfRun 31 = .ok (.if_icmp .lt 10, 3) := by decide +kernel
theorem eX6_endOfRun_38 : decode cX6_endOfRun 38 = .ok (.if_icmp .le 6, 3) := by decide +kernel
theorem eX6_endOfRun_43 : decode cX6_endOfRun 43 = .ok (.ireturn, 1) := by decide +kernel
theorem eX6_endOfRun_50 : decode cX6_endOfRun 50 = .ok (.goto (-44), 3) := by decide +kernel
theorem eX6_endOfRun_55 : decode cX6_endOfRun 55 = .ok (.ireturn, 1) := by decide +kernel
theorem kX6_valueOf_0 : am_dec cX6_valueOf 0 [.iconst 0, .istore_n 3, .iload_n 1, .istore 4] 5 = true := by decide +kernel
theorem kX6_valueOf_5 : am_dec cX6_valueOf 5 [.iload 4, .iload_n 2] 8 = true := by decide +kernel
theorem kX6_valueOf_11 : am_dec cX6_valueOf 11 [.bipush 10, .iload_n 3, .imul, .aload_n 0, .iload 4] 18 = true := by decide +kernel
theorem kX6_valueOf_21 : am_dec cX6_valueOf 21 [.iadd, .bipush 48, .isub, .sipush 10000] 28 = true := by decide +kernel
theorem kX6_valueOf_31 : am_dec cX6_valueOf 31 [.istore_n 3, .iinc 4 1] 35 = true := by decide +kernel
theorem kX6_valueOf_38 : am_dec cX6_valueOf 38 [.iload_n 3] 39 = true := by decide +kernel
theorem eX6_valueOf_8 : decode cX6_valueOf 8 = .ok (.if_icmp .ge 30, 3) := by decide +kernel
theorem eX6_valueOf_18 : decode cX6_valueOf 18 = .ok (.invokevirtual 87, 3) := by decide +kernel
theorem eX6_valueOf_28 : decode cX6_valueOf 28 = .ok (.invokestatic 112, 3) := by decide +kernel
theorem eX6_valueOf_35 : decode cX6_valueOf 35 = .ok (.goto (-30), 3) := by decide +kernel
theorem eX6_valueOf_39 : decode cX6_valueOf 39 = .ok (.ireturn, 1) := by decide +kernel
theorem kX6_kindOfWord_0 : am_dec cX6_kindOfWord 0 [.aload_n 0] 1 = true := by decide +kernel
theorem kX6_kindOfWord_3 : am_dec cX6_kindOfWord 3 [.iload_n 1, .iload_n 2] 5 = true := by decide +kernel
theorem kX6_kindOfWord_11 : am_dec cX6_kindOfWord 11 [.iconst 3] 12 = true := by decide +kernel
theorem kX6_kindOfWord_15 : am_dec cX6_kindOfWord 15 [.aload_n 0] 16 = true := by decide +kernel
theorem kX6_kindOfWord_18 : am_dec cX6_kindOfWord 18 [.iload_n 1, .iload_n 2] 20 = true := by decide +kernel
theorem kX6_kindOfWord_26 : am_dec cX6_kindOfWord 26 [.iconst 4] 27 = true := by decide +kernel
theorem kX6_kindOfWord_30 : am_dec cX6_kindOfWord 30 [.aload_n 0] 31 = true := by decide +kernel
theorem kX6_kindOfWord_33 : am_dec cX6_kindOfWord 33 [.iload_n 1, .iload_n 2] 35 = true := by decide +kernel
theorem kX6_kindOfWord_41 : am_dec cX6_kindOfWord 41 [.iconst 5] 42 = true := by decide +kernel
theorem kX6_kindOfWord_45 : am_dec cX6_kindOfWord 45 [.aload_n 0] 46 = true := by decide +kernel
theorem kX6_kindOfWord_48 : am_dec cX6_kindOfWord 48 [.iload_n 1, .iload_n 2] 50 = true := by decide +kernel
theorem kX6_kindOfWord_56 : am_dec cX6_kindOfWord 56 [.bipush 6] 58 = true := by decide +kernel
theorem kX6_kindOfWord_61 : am_dec cX6_kindOfWord 61 [.aload_n 0] 62 = true := by decide +kernel
theorem kX6_kindOfWord_64 : am_dec cX6_kindOfWord 64 [.iload_n 1, .iload_n 2] 66 = true := by decide +kernel
theorem kX6_kindOfWord_72 : am_dec cX6_kindOfWord 72 [.iconst (-1)] 73 = true := by decide +kernel
theorem kX6_kindOfWord_76 : am_dec cX6_kindOfWord 76 [.aload_n 0] 77 = true := by decide +kernel
theorem kX6_kindOfWord_79 : am_dec cX6_kindOfWord 79 [.iload_n 1, .iload_n 2] 81 = true := by decide +kernel
theorem kX6_kindOfWord_87 : am_dec cX6_kindOfWord 87 [.bipush (-2)] 89 = true := by decide +kernel
theorem kX6_kindOfWord_92 : am_dec cX6_kindOfWord 92 [.aload_n 0] 93 = true := by decide +kernel
theorem kX6_kindOfWord_95 : am_dec cX6_kindOfWord 95 [.iload_n 1, .iload_n 2] 97 = true := by decide +kernel
theorem kX6_kindOfWord_103 : am_dec cX6_kindOfWord 103 [.bipush (-3)] 105 = true := by decide +kernel
theorem kX6_kindOfWord_108 : am_dec cX6_kindOfWord 108 [.aload_n 0] 109 = true := by decide +kernel
theorem kX6_kindOfWord_111 : am_dec cX6_kindOfWord 111 [.iload_n 1, .iload_n 2] 113 = true := by decide +kernel
theorem kX6_kindOfWord_119 : am_dec cX6_kindOfWord 119 [.bipush (-4)] 121 = true := by decide +kernel
theorem kX6_kindOfWord_124 : am_dec cX6_kindOfWord 124 [.aload_n 0] 125 = true := by decide +kernel
theorem kX6_kindOfWord_127 : am_dec cX6_kindOfWord 127 [.iload_n 1, .iload_n 2] 129 = true := by decide +kernel
theorem kX6_kindOfWord_135 : am_dec cX6_kindOfWord 135 [.bipush (-5)] 137 = true := by decide +kernel
theorem kX6_kindOfWord_140 : am_dec cX6_kindOfWord 140 [.iconst 1] 141 = true := by decide +kernel
theorem eX6_kindOfWord_1 : decode cX6_kindOfWord 1 = .ok (.ldc 117, 2) := by decide +kernel
theorem eX6_kindOfWord_5 : decode cX6_kindOfWord 5 = .ok (.invokevirtual 119, 3) := by decide +kernel
theorem eX6_kindOfWord_8 : decode cX6_kindOfWord 8 = .ok (.ifCond .eq 7, 3) := by decide +kernel
theorem eX6_kindOfWord_12 : decode cX6_kindOfWord 12 = .ok (.goto 129, 3) := by decide +kernel
theorem eX6_kindOfWord_16 : decode cX6_kindOfWord 16 = .ok (.ldc 123, 2) := by decide +kernel
theorem eX6_kindOfWord_20 : decode cX6_kindOfWord 20 = .ok (.invokevirtual 119, 3) := by decide +kernel
theorem eX6_kindOfWord_23 : decode cX6_kindOfWord 23 = .ok (.ifCond .eq 7, 3) := by decide +kernel
theorem eX6_kindOfWord_27 : decode cX6_kindOfWord 27 = .ok (.goto 114, 3) := by decide +kernel
theorem eX6_kindOfWord_31 : decode cX6_kindOfWord 31 = .ok (.ldc 125, 2) := by decide +kernel
theorem eX6_kindOfWord_35 : decode cX6_kindOfWord 35 = .ok (.invokevirtual 119, 3) := by decide +kernel
theorem eX6_kindOfWord_38 : decode cX6_kindOfWord 38 = .ok (.ifCond .eq 7, 3) := by decide +kernel
theorem eX6_kindOfWord_42 : decode cX6_kindOfWord 42 = .ok (.goto 99, 3) := by decide +kernel
theorem eX6_kindOfWord_46 : decode cX6_kindOfWord 46 = .ok (.ldc 127, 2) := by decide +kernel
theorem eX6_kindOfWord_50 : decode cX6_kindOfWord 50 = .ok (.invokevirtual 119, 3) := by decide +kernel
theorem eX6_kindOfWord_53 : decode cX6_kindOfWord 53 = .ok (.ifCond .eq 8, 3) := by decide +kernel
theorem eX6_kindOfWord_58 : decode cX6_kindOfWord 58 = .ok (.goto 83, 3) := by decide +kernel
theorem eX6_kindOfWord_62 : decode cX6_kindOfWord 62 = .ok (.ldc 129, 2) := by decide +kernel
theorem eX6_kindOfWord_66 : decode cX6_kindOfWord 66 = .ok (.invokevirtual 119, 3) := by decide +kernel
theorem eX6_kindOfWord_69 : decode cX6_kindOfWord 69 = .ok (.ifCond .eq 7, 3) := by decide +kernel
theorem eX6_kindOfWord_73 : decode cX6_kindOfWord 73 = .ok (.goto 68, 3) := by decide +kernel
theorem eX6_kindOfWord_77 : decode cX6_kindOfWord 77 = .ok (.ldc 131, 2) := by decide +kernel
theorem eX6_kindOfWord_81 : decode cX6_kindOfWord 81 = .ok (.invokevirtual 119, 3) := by decide +kernel
theorem eX6_kindOfWord_84 : decode cX6_kindOfWord 84 = .ok (.ifCond .eq 8, 3) := by decide +kernel
theorem eX6_kindOfWord_89 : decode cX6_kindOfWord 89 = .ok (.goto 52, 3) := by decide +kernel
theorem eX6_kindOfWord_93 : decode cX6_kindOfWord 93 = .ok (.ldc 133, 2) := by decide +kernel
theorem eX6_kindOfWord_97 : decode cX6_kindOfWord 97 = .ok (.invokevirtual 119, 3) := by decide +kernel
theorem eX6_kindOfWord_100 : decode cX6_kindOfWord 100 = .ok (.ifCond .eq 8, 3) := by decide +kernel
theorem eX6_kindOfWord_105 : decode cX6_kindOfWord 105 = .ok (.goto 36, 3) := by decide +kernel
theorem eX6_kindOfWord_109 : decode cX6_kindOfWord 109 = .ok (.ldc 135, 2) := by decide +kernel
theorem eX6_kindOfWord_113 : decode cX6_kindOfWord 113 = .ok (.invokevirtual 119, 3) := by decide +kernel
theorem eX6_kindOfWord_116 : decode cX6_kindOfWord 116 = .ok (.ifCond .eq 8, 3) := by decide +kernel
theorem eX6_kindOfWord_121 : decode cX6_kindOfWord 121 = .ok (.goto 20, 3) := by decide +kernel
theorem eX6_kindOfWord_125 : decode cX6_kindOfWord 125 = .ok (.ldc 137, 2) := by decide +kernel
theorem eX6_kindOfWord_129 : decode cX6_kindOfWord 129 = .ok (.invokevirtual 119, 3) := by decide +kernel
theorem eX6_kindOfWord_132 : decode cX6_kindOfWord 132 = .ok (.ifCond .eq 8, 3) := by decide +kernel
theorem eX6_kindOfWord_137 : decode cX6_kindOfWord 137 = .ok (.goto 4, 3) := by decide +kernel
theorem eX6_kindOfWord_141 : decode cX6_kindOfWord 141 = .ok (.ireturn, 1) := by decide +kernel
theorem kX6_isWord_0 : am_dec cX6_isWord 0 [.aload_n 1] 1 = true := by decide +kernel
theorem kX6_isWord_4 : am_dec cX6_isWord 4 [.iload_n 3, .iload_n 2, .isub] 7 = true := by decide +kernel
theorem kX6_isWord_10 : am_dec cX6_isWord 10 [.iconst 0] 11 = true := by decide +kernel
theorem kX6_isWord_12 : am_dec cX6_isWord 12 [.iconst 0, .istore 4] 15 = true := by decide +kernel
theorem kX6_isWord_15 : am_dec cX6_isWord 15 [.iload 4, .aload_n 1] 18 = true := by decide +kernel
theorem kX6_isWord_24 : am_dec cX6_isWord 24 [.aload_n 0, .iload_n 2, .iload 4, .iadd] 29 = true := by decide +kernel
theorem kX6_isWord_32 : am_dec cX6_isWord 32 [.aload_n 1, .iload 4] 35 = true := by decide +kernel
theorem kX6_isWord_41 : am_dec cX6_isWord 41 [.iconst 0] 42 = true := by decide +kernel
theorem kX6_isWord_43 : am_dec cX6_isWord 43 [.iinc 4 1] 46 = true := by decide +kernel
theorem kX6_isWord_49 : am_dec cX6_isWord 49 [.iconst 1] 50 = true := by decide +kernel
theorem eX6_isWord_1 : decode cX6_isWord 1 = .ok (.invokevirtual 139, 3) := by decide +kernel
theorem eX6_isWord_7 : decode cX6_isWord 7 = .ok (.if_icmp .eq 5, 3) := by decide +kernel
theorem eX6_isWord_11 : decode cX6_isWord 11 = .ok (.ireturn, 1) := by decide +kernel
theorem eX6_isWord_18 : decode cX6_isWord 18 = .ok (.invokevirtual 139, 3) := by decide +kernel
theorem eX6_isWord_21 : decode cX6_isWord 21 = .ok (.if_icmp .ge 28, 3) := by decide +kernel
theorem eX6_isWord_29 : decode cX6_isWord 29 = .ok (.invokevirtual 87, 3) := by decide +kernel
theorem eX6_isWord_35 : decode cX6_isWord 35 = .ok (.invokevirtual 144, 3) := by decide +kernel
theorem eX6_isWord_38 : decode cX6_isWord 38 = .ok (.if_icmp .eq 5, 3) := by decide +kernel
theorem eX6_isWord_42 : decode cX6_isWord 42 = .ok (.ireturn, 1) := by decide +kernel
theorem eX6_isWord_46 : decode cX6_isWord 46 = .ok (.goto (-31), 3) := by decide +kernel
theorem eX6_isWord_50 : decode cX6_isWord 50 = .ok (.ireturn, 1) := by decide +kernel
theorem kX6_kindOfSign_0 : am_dec cX6_kindOfSign 0 [.iload_n 0] 1 = true := by decide +kernel
theorem kX6_kindOfSign_96 : am_dec cX6_kindOfSign 96 [.iload_n 0] 97 = true := by decide +kernel
theorem kX6_kindOfSign_98 : am_dec cX6_kindOfSign 98 [.iconst 1] 99 = true := by decide +kernel
theorem eX6_kindOfSign_1 : decode cX6_kindOfSign 1 = .ok (.tableswitch 97 40 59 #[95, 95, 95, 95, 97, 95, 97, 95, 97, 97, 97, 97, 97, 97, 97, 97, 97, 97, 97, 95], 95) := by decide +kernel
theorem eX6_kindOfSign_97 : decode cX6_kindOfSign 97 = .ok (.ireturn, 1) := by decide +kernel
theorem eX6_kindOfSign_99 : decode cX6_kindOfSign 99 = .ok (.ireturn, 1) := by decide +kernel
theorem kX6_addToken_0 : am_dec cX6_addToken 0 [.aload_n 0] 1 = true := by decide +kernel
theorem kX6_addToken_4 : am_dec cX6_addToken 4 [.aload_n 0] 5 = true := by decide +kernel
theorem kX6_addToken_12 : am_dec cX6_addToken 12 [.aload_n 0] 13 = true := by decide +kernel
theorem kX6_addToken_16 : am_dec cX6_addToken 16 [.aload_n 0] 17 = true := by decide +kernel
theorem kX6_addToken_20 : am_dec cX6_addToken 20 [.iload_n 1] 21 = true := by decide +kernel
theorem kX6_addToken_22 : am_dec cX6_addToken 22 [.aload_n 0] 23 = true := by decide +kernel
theorem kX6_addToken_26 : am_dec cX6_addToken 26 [.aload_n 0] 27 = true := by decide +kernel
theorem kX6_addToken_30 : am_dec cX6_addToken 30 [.iload_n 2] 31 = true := by decide +kernel
theorem kX6_addToken_32 : am_dec cX6_addToken 32 [.aload_n 0] 33 = true := by decide +kernel
theorem kX6_addToken_36 : am_dec cX6_addToken 36 [.aload_n 0] 37 = true := by decide +kernel
theorem kX6_addToken_40 : am_dec cX6_addToken 40 [.iload_n 3] 41 = true := by decide +kernel
theorem kX6_addToken_42 : am_dec cX6_addToken 42 [.aload_n 0, .dup] 44 = true := by decide +kernel
theorem kX6_addToken_47 : am_dec cX6_addToken 47 [.iconst 1, .iadd] 49 = true := by decide +kernel
theorem eX6_addToken_1 : decode cX6_addToken 1 = .ok (.getfield 24, 3) := by decide +kernel
theorem eX6_addToken_5 : decode cX6_addToken 5 = .ok (.getfield 9, 3) := by decide +kernel
theorem eX6_addToken_8 : decode cX6_addToken 8 = .ok (.arraylength, 1) := by decide +kernel
theorem eX6_addToken_9 : decode cX6_addToken 9 = .ok (.if_icmp .ge 43, 3) := by decide +kernel
theorem eX6_addToken_13 : decode cX6_addToken 13 = .ok (.getfield 9, 3) := by decide +kernel
theorem eX6_addToken_17 : decode cX6_addToken 17 = .ok (.getfield 24, 3) := by decide +kernel
theorem eX6_addToken_21 : decode cX6_addToken 21 = .ok (.iastore, 1) := by decide +kernel
theorem eX6_addToken_23 : decode cX6_addToken 23 = .ok (.getfield 15, 3) := by decide +kernel
theorem eX6_addToken_27 : decode cX6_addToken 27 = .ok (.getfield 24, 3) := by decide +kernel
theorem eX6_addToken_31 : decode cX6_addToken 31 = .ok (.iastore, 1) := by decide +kernel
theorem eX6_addToken_33 : decode cX6_addToken 33 = .ok (.getfield 18, 3) := by decide +kernel
theorem eX6_addToken_37 : decode cX6_addToken 37 = .ok (.getfield 24, 3) := by decide +kernel
theorem eX6_addToken_41 : decode cX6_addToken 41 = .ok (.iastore, 1) := by decide +kernel
theorem eX6_addToken_44 : decode cX6_addToken 44 = .ok (.getfield 24, 3) := by decide +kernel
theorem eX6_addToken_49 : decode cX6_addToken 49 = .ok (.putfield 24, 3) := by decide +kernel
theorem eX6_addToken_52 : decode cX6_addToken 52 = .ok (.return_, 1) := by decide +kernel
theorem kX6_kindHere_0 : am_dec cX6_kindHere 0 [.aload_n 0] 1 = true := by decide +kernel
theorem kX6_kindHere_7 : am_dec cX6_kindHere 7 [.aload_n 0] 8 = true := by decide +kernel
theorem kX6_kindHere_11 : am_dec cX6_kindHere 11 [.aload_n 0] 12 = true := by decide +kernel
theorem kX6_kindHere_19 : am_dec cX6_kindHere 19 [.aload_n 0] 20 = true := by decide +kernel
theorem kX6_kindHere_23 : am_dec cX6_kindHere 23 [.aload_n 0] 24 = true := by decide +kernel
theorem kX6_kindHere_31 : am_dec cX6_kindHere 31 [.iconst 0] 32 = true := by decide +kernel
theorem eX6_kindHere_1 : decode cX6_kindHere 1 = .ok (.getfield 28, 3) := by decide +kernel
theorem eX6_kindHere_4 : decode cX6_kindHere 4 = .ok (.ifCond .lt 27, 3) := by decide +kernel
theorem eX6_kindHere_8 : decode cX6_kindHere 8 = .ok (.getfield 28, 3) := by decide +kernel
theorem eX6_kindHere_12 : decode cX6_kindHere 12 = .ok (.getfield 9, 3) := by decide +kernel
theorem eX6_kindHere_15 : decode cX6_kindHere 15 = .ok (.arraylength, 1) := by decide +kernel
theorem eX6_kindHere_16 : decode cX6_kindHere 16 = .ok (.if_icmp .ge 15, 3) := by decide +kernel
theorem eX6_kindHere_20 : decode cX6_kindHere 20 = .ok (.getfield 9, 3) := by decide +kernel
theorem eX6_kindHere_24 : decode cX6_kindHere 24 = .ok (.getfield 28, 3) := by decide +kernel
theorem eX6_kindHere_27 : decode cX6_kindHere 27 = .ok (.iaload, 1) := by decide +kernel
theorem eX6_kindHere_28 : decode cX6_kindHere 28 = .ok (.goto 4, 3) := by decide +kernel
theorem eX6_kindHere_32 : decode cX6_kindHere 32 = .ok (.ireturn, 1) := by decide +kernel
theorem kX6_valueHere_0 : am_dec cX6_valueHere 0 [.aload_n 0] 1 = true := by decide +kernel
theorem kX6_valueHere_7 : am_dec cX6_valueHere 7 [.aload_n 0] 8 = true := by decide +kernel
theorem kX6_valueHere_11 : am_dec cX6_valueHere 11 [.aload_n 0] 12 = true := by decide +kernel
theorem kX6_valueHere_19 : am_dec cX6_valueHere 19 [.aload_n 0] 20 = true := by decide +kernel
theorem kX6_valueHere_23 : am_dec cX6_valueHere 23 [.aload_n 0] 24 = true := by decide +kernel
theorem kX6_valueHere_31 : am_dec cX6_valueHere 31 [.iconst 0] 32 = true := by decide +kernel
theorem eX6_valueHere_1 : decode cX6_valueHere 1 = .ok (.getfield 28, 3) := by decide +kernel
theorem eX6_valueHere_4 : decode cX6_valueHere 4 = .ok (.ifCond .lt 27, 3) := by decide +kernel
theorem eX6_valueHere_8 : decode cX6_valueHere 8 = .ok (.getfield 28, 3) := by decide +kernel
theorem eX6_valueHere_12 : decode cX6_valueHere 12 = .ok (.getfield 18, 3) := by decide +kernel
theorem eX6_valueHere_15 : decode cX6_valueHere 15 = .ok (.arraylength, 1) := by decide +kernel
theorem eX6_valueHere_16 : decode cX6_valueHere 16 = .ok (.if_icmp .ge 15, 3) := by decide +kernel
theorem eX6_valueHere_20 : decode cX6_valueHere 20 = .ok (.getfield 18, 3) := by decide +kernel
theorem eX6_valueHere_24 : decode cX6_valueHere 24 = .ok (.getfield 28, 3) := by decide +kernel
theorem eX6_valueHere_27 : decode cX6_valueHere 27 = .ok (.iaload, 1) := by decide +kernel
theorem eX6_valueHere_28 : decode cX6_valueHere 28 = .ok (.goto 4, 3) := by decide +kernel
theorem eX6_valueHere_32 : decode cX6_valueHere 32 = .ok (.ireturn, 1) := by decide +kernel
theorem kX6_fail_0 : am_dec cX6_fail 0 [.aload_n 0, .iload_n 1] 2 = true := by decide +kernel
theorem kX6_fail_5 : am_dec cX6_fail 5 [.aload_n 0, .aload_n 0] 7 = true := by decide +kernel
theorem kX6_fail_13 : am_dec cX6_fail 13 [.aload_n 0] 14 = true := by decide +kernel
theorem kX6_fail_17 : am_dec cX6_fail 17 [.aload_n 0] 18 = true := by decide +kernel
theorem kX6_fail_25 : am_dec cX6_fail 25 [.aload_n 0] 26 = true := by decide +kernel
theorem kX6_fail_29 : am_dec cX6_fail 29 [.aload_n 0] 30 = true := by decide +kernel
theorem kX6_fail_37 : am_dec cX6_fail 37 [.iconst 0] 38 = true := by decide +kernel
theorem kX6_fail_41 : am_dec cX6_fail 41 [.iconst 0] 42 = true := by decide +kernel
theorem eX6_fail_2 : decode cX6_fail 2 = .ok (.putfield 44, 3) := by decide +kernel
theorem eX6_fail_7 : decode cX6_fail 7 = .ok (.getfield 28, 3) := by decide +kernel
theorem eX6_fail_10 : decode cX6_fail 10 = .ok (.ifCond .lt 27, 3) := by decide +kernel
theorem eX6_fail_14 : decode cX6_fail 14 = .ok (.getfield 28, 3) := by decide +kernel
theorem eX6_fail_18 : decode cX6_fail 18 = .ok (.getfield 15, 3) := by decide +kernel
theorem eX6_fail_21 : decode cX6_fail 21 = .ok (.arraylength, 1) := by decide +kernel
theorem eX6_fail_22 : decode cX6_fail 22 = .ok (.if_icmp .ge 15, 3) := by decide +kernel
theorem eX6_fail_26 : decode cX6_fail 26 = .ok (.getfield 15, 3) := by decide +kernel
theorem eX6_fail_30 : decode cX6_fail 30 = .ok (.getfield 28, 3) := by decide +kernel
theorem eX6_fail_33 : decode cX6_fail 33 = .ok (.iaload, 1) := by decide +kernel
theorem eX6_fail_34 : decode cX6_fail 34 = .ok (.goto 4, 3) := by decide +kernel
theorem eX6_fail_38 : decode cX6_fail 38 = .ok (.putfield 47, 3) := by decide +kernel
theorem eX6_fail_42 : decode cX6_fail 42 = .ok (.ireturn, 1) := by decide +kernel
theorem kX6_take_0 : am_dec cX6_take 0 [.aload_n 0] 1 = true := by decide +kernel
theorem kX6_take_4 : am_dec cX6_take 4 [.iload_n 1] 5 = true := by decide +kernel
theorem kX6_take_8 : am_dec cX6_take 8 [.aload_n 0, .bipush (-2)] 11 = true := by decide +kernel
theorem kX6_take_15 : am_dec cX6_take 15 [.aload_n 0, .dup] 17 = true := by decide +kernel
theorem kX6_take_20 : am_dec cX6_take 20 [.iconst 1, .iadd] 22 = true := by decide +kernel
theorem kX6_take_25 : am_dec cX6_take 25 [.iconst 1] 26 = true := by decide +kernel
theorem eX6_take_1 : decode cX6_take 1 = .ok (.invokevirtual 70, 3) := by decide +kernel
theorem eX6_take_5 : decode cX6_take 5 = .ok (.if_icmp .eq 10, 3) := by decide +kernel
theorem eX6_take_11 : decode cX6_take 11 = .ok (.invokevirtual 83, 3) := by decide +kernel
theorem eX6_take_14 : decode cX6_take 14 = .ok (.ireturn, 1) := by decide +kernel
theorem eX6_take_17 : decode cX6_take 17 = .ok (.getfield 28, 3) := by decide +kernel
theorem eX6_take_22 : decode cX6_take 22 = .ok (.putfield 28, 3) := by decide +kernel
theorem eX6_take_26 : decode cX6_take 26 = .ok (.ireturn, 1) := by decide +kernel
theorem kX6_seeNumber_0 : am_dec cX6_seeNumber 0 [.aload_n 0] 1 = true := by decide +kernel
theorem kX6_seeNumber_4 : am_dec cX6_seeNumber 4 [.iconst 2] 5 = true := by decide +kernel
theorem kX6_seeNumber_8 : am_dec cX6_seeNumber 8 [.aload_n 0, .bipush (-2)] 11 = true := by decide +kernel
theorem kX6_seeNumber_15 : am_dec cX6_seeNumber 15 [.aload_n 0, .aload_n 0] 17 = true := by decide +kernel
theorem kX6_seeNumber_23 : am_dec cX6_seeNumber 23 [.aload_n 0] 24 = true := by decide +kernel
theorem kX6_seeNumber_27 : am_dec cX6_seeNumber 27 [.iload_n 1] 28 = true := by decide +kernel
theorem kX6_seeNumber_31 : am_dec cX6_seeNumber 31 [.aload_n 0] 32 = true := by decide +kernel
theorem kX6_seeNumber_35 : am_dec cX6_seeNumber 35 [.iload_n 2] 36 = true := by decide +kernel
theorem kX6_seeNumber_39 : am_dec cX6_seeNumber 39 [.aload_n 0, .bipush (-3)] 42 = true := by decide +kernel
theorem kX6_seeNumber_48 : am_dec cX6_seeNumber 48 [.iconst 1] 49 = true := by decide +kernel
theorem kX6_seeNumber_52 : am_dec cX6_seeNumber 52 [.iconst 0] 53 = true := by decide +kernel
theorem eX6_seeNumber_1 : decode cX6_seeNumber 1 = .ok (.invokevirtual 70, 3) := by decide +kernel
theorem eX6_seeNumber_5 : decode cX6_seeNumber 5 = .ok (.if_icmp .eq 10, 3) := by decide +kernel
theorem eX6_seeNumber_11 : decode cX6_seeNumber 11 = .ok (.invokevirtual 83, 3) := by decide +kernel
theorem eX6_seeNumber_14 : decode cX6_seeNumber 14 = .ok (.ireturn, 1) := by decide +kernel
theorem eX6_seeNumber_17 : decode cX6_seeNumber 17 = .ok (.invokevirtual 148, 3) := by decide +kernel
theorem eX6_seeNumber_20 : decode cX6_seeNumber 20 = .ok (.putfield 31, 3) := by decide +kernel
theorem eX6_seeNumber_24 : decode cX6_seeNumber 24 = .ok (.getfield 31, 3) := by decide +kernel
theorem eX6_seeNumber_28 : decode cX6_seeNumber 28 = .ok (.if_icmp .lt 11, 3) := by decide +kernel
theorem eX6_seeNumber_32 : decode cX6_seeNumber 32 = .ok (.getfield 31, 3) := by decide +kernel
theorem eX6_seeNumber_36 : decode cX6_seeNumber 36 = .ok (.if_icmp .le 12, 3) := by decide +kernel
theorem eX6_seeNumber_42 : decode cX6_seeNumber 42 = .ok (.invokevirtual 83, 3) := by decide +kernel
theorem eX6_seeNumber_45 : decode cX6_seeNumber 45 = .ok (.ifCond .eq 7, 3) := by decide +kernel
theorem eX6_seeNumber_49 : decode cX6_seeNumber 49 = .ok (.goto 4, 3) := by decide +kernel
theorem eX6_seeNumber_53 : decode cX6_seeNumber 53 = .ok (.ireturn, 1) := by decide +kernel
theorem kX6_takeNumber_0 : am_dec cX6_takeNumber 0 [.aload_n 0, .iload_n 1, .iload_n 2] 3 = true := by decide +kernel
theorem kX6_takeNumber_6 : am_dec cX6_takeNumber 6 [.istore_n 3, .iload_n 3] 8 = true := by decide +kernel
theorem kX6_takeNumber_11 : am_dec cX6_takeNumber 11 [.aload_n 0, .dup] 13 = true := by decide +kernel
theorem kX6_takeNumber_16 : am_dec cX6_takeNumber 16 [.iconst 1, .iadd] 18 = true := by decide +kernel
theorem kX6_takeNumber_21 : am_dec cX6_takeNumber 21 [.iload_n 3] 22 = true := by decide +kernel
theorem eX6_takeNumber_3 : decode cX6_takeNumber 3 = .ok (.invokevirtual 151, 3) := by decide +kernel
theorem eX6_takeNumber_8 : decode cX6_takeNumber 8 = .ok (.ifCond .eq 13, 3) := by decide +kernel
theorem eX6_takeNumber_13 : decode cX6_takeNumber 13 = .ok (.getfield 28, 3) := by decide +kernel
theorem eX6_takeNumber_18 : decode cX6_takeNumber 18 = .ok (.putfield 28, 3) := by decide +kernel
theorem eX6_takeNumber_22 : decode cX6_takeNumber 22 = .ok (.ireturn, 1) := by decide +kernel
theorem kX6_seePoint_0 : am_dec cX6_seePoint 0 [.aload_n 0, .iconst 0, .aload_n 0] 3 = true := by decide +kernel
theorem kX6_seePoint_15 : am_dec cX6_seePoint 15 [.iconst 0] 16 = true := by decide +kernel
theorem kX6_seePoint_17 : am_dec cX6_seePoint 17 [.aload_n 0, .aload_n 0] 19 = true := by decide +kernel
theorem kX6_seePoint_25 : am_dec cX6_seePoint 25 [.aload_n 0, .iconst 0, .aload_n 0] 28 = true := by decide +kernel
theorem eX6_seePoint_3 : decode cX6_seePoint 3 = .ok (.getfield 54, 3) := by decide +kernel
theorem eX6_seePoint_6 : decode cX6_seePoint 6 = .ok (.getfield 155, 3) := by decide +kernel
theorem eX6_seePoint_9 : decode cX6_seePoint 9 = .ok (.invokevirtual 160, 3) := by decide +kernel
theorem eX6_seePoint_12 : decode cX6_seePoint 12 = .ok (.ifCond .ne 5, 3) := by decide +kernel
theorem eX6_seePoint_16 : decode cX6_seePoint 16 = .ok (.ireturn, 1) := by decide +kernel
theorem eX6_seePoint_19 : decode cX6_seePoint 19 = .ok (.getfield 31, 3) := by decide +kernel
theorem eX6_seePoint_22 : decode cX6_seePoint 22 = .ok (.putfield 34, 3) := by decide +kernel
theorem eX6_seePoint_28 : decode cX6_seePoint 28 = .ok (.getfield 54, 3) := by decide +kernel
theorem eX6_seePoint_31 : decode cX6_seePoint 31 = .ok (.getfield 163, 3) := by decide +kernel
theorem eX6_seePoint_34 : decode cX6_seePoint 34 = .ok (.invokevirtual 151, 3) := by decide +kernel
theorem eX6_seePoint_37 : decode cX6_seePoint 37 = .ok (.ireturn, 1) := by decide +kernel
theorem kX6_readField_0 : am_dec cX6_readField 0 [.aload_n 0, .iconst 3] 2 = true := by decide +kernel
theorem kX6_readField_8 : am_dec cX6_readField 8 [.aload_n 0, .iconst 2, .bipush 30] 12 = true := by decide +kernel
theorem kX6_readField_18 : am_dec cX6_readField 18 [.iconst 0] 19 = true := by decide +kernel
theorem kX6_readField_20 : am_dec cX6_readField 20 [.aload_n 0] 21 = true := by decide +kernel
theorem kX6_readField_24 : am_dec cX6_readField 24 [.istore_n 1, .aload_n 0, .iconst 2, .bipush 30] 29 = true := by decide +kernel
theorem kX6_readField_35 : am_dec cX6_readField 35 [.iconst 0] 36 = true := by decide +kernel
theorem kX6_readField_37 : am_dec cX6_readField 37 [.aload_n 0] 38 = true := by decide +kernel
theorem kX6_readField_41 : am_dec cX6_readField 41 [.iload_n 1, .aload_n 0] 43 = true := by decide +kernel
theorem kX6_readField_49 : am_dec cX6_readField 49 [.aload_n 0, .bipush 59] 52 = true := by decide +kernel
theorem eX6_readField_2 : decode cX6_readField 2 = .ok (.invokevirtual 166, 3) := by decide +kernel
theorem eX6_readField_5 : decode cX6_readField 5 = .ok (.ifCond .eq 13, 3) := by decide +kernel
theorem eX6_readField_12 : decode cX6_readField 12 = .ok (.invokevirtual 160, 3) := by decide +kernel
theorem eX6_readField_15 : decode cX6_readField 15 = .ok (.ifCond .ne 5, 3) := by decide +kernel
theorem eX6_readField_19 : decode cX6_readField 19 = .ok (.ireturn, 1) := by decide +kernel
theorem eX6_readField_21 : decode cX6_readField 21 = .ok (.getfield 31, 3) := by decide +kernel
theorem eX6_readField_29 : decode cX6_readField 29 = .ok (.invokevirtual 160, 3) := by decide +kernel
theorem eX6_readField_32 : decode cX6_readField 32 = .ok (.ifCond .ne 5, 3) := by decide +kernel
theorem eX6_readField_36 : decode cX6_readField 36 = .ok (.ireturn, 1) := by decide +kernel
theorem eX6_readField_38 : decode cX6_readField 38 = .ok (.getfield 54, 3) := by decide +kernel
theorem eX6_readField_43 : decode cX6_readField 43 = .ok (.getfield 31, 3) := by decide +kernel
theorem eX6_readField_46 : decode cX6_readField 46 = .ok (.invokevirtual 169, 3) := by decide +kernel
theorem eX6_readField_52 : decode cX6_readField 52 = .ok (.invokevirtual 166, 3) := by decide +kernel
theorem eX6_readField_55 : decode cX6_readField 55 = .ok (.ireturn, 1) := by decide +kernel
theorem kX6_readStone_0 : am_dec cX6_readStone 0 [.aload_n 0] 1 = true := by decide +kernel
theorem kX6_readStone_7 : am_dec cX6_readStone 7 [.bipush 20] 9 = true := by decide +kernel
theorem kX6_readStone_12 : am_dec cX6_readStone 12 [.aload_n 0, .bipush (-5)] 15 = true := by decide +kernel
theorem kX6_readStone_19 : am_dec cX6_readStone 19 [.aload_n 0, .dup] 21 = true := by decide +kernel
theorem kX6_readStone_24 : am_dec cX6_readStone 24 [.iconst 1, .iadd] 26 = true := by decide +kernel
theorem kX6_readStone_29 : am_dec cX6_readStone 29 [.aload_n 0] 30 = true := by decide +kernel
theorem kX6_readStone_36 : am_dec cX6_readStone 36 [.iconst 0] 37 = true := by decide +kernel
theorem kX6_readStone_38 : am_dec cX6_readStone 38 [.aload_n 0] 39 = true := by decide +kernel
theorem kX6_readStone_42 : am_dec cX6_readStone 42 [.istore_n 1, .aload_n 0] 44 = true := by decide +kernel
theorem kX6_readStone_47 : am_dec cX6_readStone 47 [.aload_n 0] 48 = true := by decide +kernel
theorem kX6_readStone_51 : am_dec cX6_readStone 51 [.iload_n 1] 52 = true := by decide +kernel
theorem kX6_readStone_58 : am_dec cX6_readStone 58 [.aload_n 0, .bipush (-4)] 61 = true := by decide +kernel
theorem kX6_readStone_65 : am_dec cX6_readStone 65 [.aload_n 0, .dup] 67 = true := by decide +kernel
theorem kX6_readStone_70 : am_dec cX6_readStone 70 [.iconst 1, .iadd] 72 = true := by decide +kernel
theorem kX6_readStone_75 : am_dec cX6_readStone 75 [.aload_n 0, .iconst 1, .bipush 99] 79 = true := by decide +kernel
theorem kX6_readStone_85 : am_dec cX6_readStone 85 [.iconst 0] 86 = true := by decide +kernel
theorem kX6_readStone_87 : am_dec cX6_readStone 87 [.aload_n 0] 88 = true := by decide +kernel
theorem kX6_readStone_91 : am_dec cX6_readStone 91 [.aload_n 0] 92 = true := by decide +kernel
theorem kX6_readStone_95 : am_dec cX6_readStone 95 [.iload_n 1, .aload_n 0] 97 = true := by decide +kernel
theorem kX6_readStone_103 : am_dec cX6_readStone 103 [.aload_n 0, .bipush 59] 106 = true := by decide +kernel
theorem eX6_readStone_1 : decode cX6_readStone 1 = .ok (.getfield 54, 3) := by decide +kernel
theorem eX6_readStone_4 : decode cX6_readStone 4 = .ok (.getfield 173, 3) := by decide +kernel
theorem eX6_readStone_9 : decode cX6_readStone 9 = .ok (.if_icmp .lt 10, 3) := by decide +kernel
theorem eX6_readStone_15 : decode cX6_readStone 15 = .ok (.invokevirtual 83, 3) := by decide +kernel
theorem eX6_readStone_18 : decode cX6_readStone 18 = .ok (.ireturn, 1) := by decide +kernel
theorem eX6_readStone_21 : decode cX6_readStone 21 = .ok (.getfield 28, 3) := by decide +kernel
theorem eX6_readStone_26 : decode cX6_readStone 26 = .ok (.putfield 28, 3) := by decide +kernel
theorem eX6_readStone_30 : decode cX6_readStone 30 = .ok (.invokevirtual 176, 3) := by decide +kernel
theorem eX6_readStone_33 : decode cX6_readStone 33 = .ok (.ifCond .ne 5, 3) := by decide +kernel
theorem eX6_readStone_37 : decode cX6_readStone 37 = .ok (.ireturn, 1) := by decide +kernel
theorem eX6_readStone_39 : decode cX6_readStone 39 = .ok (.getfield 31, 3) := by decide +kernel
theorem eX6_readStone_44 : decode cX6_readStone 44 = .ok (.getfield 54, 3) := by decide +kernel
theorem eX6_readStone_48 : decode cX6_readStone 48 = .ok (.getfield 34, 3) := by decide +kernel
theorem eX6_readStone_52 : decode cX6_readStone 52 = .ok (.invokevirtual 179, 3) := by decide +kernel
theorem eX6_readStone_55 : decode cX6_readStone 55 = .ok (.ifCond .eq 10, 3) := by decide +kernel
theorem eX6_readStone_61 : decode cX6_readStone 61 = .ok (.invokevirtual 83, 3) := by decide +kernel
theorem eX6_readStone_64 : decode cX6_readStone 64 = .ok (.ireturn, 1) := by decide +kernel
theorem eX6_readStone_67 : decode cX6_readStone 67 = .ok (.getfield 28, 3) := by decide +kernel
theorem eX6_readStone_72 : decode cX6_readStone 72 = .ok (.putfield 28, 3) := by decide +kernel
theorem eX6_readStone_79 : decode cX6_readStone 79 = .ok (.invokevirtual 160, 3) := by decide +kernel
theorem eX6_readStone_82 : decode cX6_readStone 82 = .ok (.ifCond .ne 5, 3) := by decide +kernel
theorem eX6_readStone_86 : decode cX6_readStone 86 = .ok (.ireturn, 1) := by decide +kernel
theorem eX6_readStone_88 : decode cX6_readStone 88 = .ok (.getfield 54, 3) := by decide +kernel
theorem eX6_readStone_92 : decode cX6_readStone 92 = .ok (.getfield 34, 3) := by decide +kernel
theorem eX6_readStone_97 : decode cX6_readStone 97 = .ok (.getfield 31, 3) := by decide +kernel
theorem eX6_readStone_100 : decode cX6_readStone 100 = .ok (.invokevirtual 182, 3) := by decide +kernel
theorem eX6_readStone_106 : decode cX6_readStone 106 = .ok (.invokevirtual 166, 3) := by decide +kernel
theorem eX6_readStone_109 : decode cX6_readStone 109 = .ok (.ireturn, 1) := by decide +kernel
theorem kX6_readPolygon_0 : am_dec cX6_readPolygon 0 [.aload_n 0] 1 = true := by decide +kernel
theorem kX6_readPolygon_7 : am_dec cX6_readPolygon 7 [.bipush 6] 9 = true := by decide +kernel
theorem kX6_readPolygon_12 : am_dec cX6_readPolygon 12 [.aload_n 0, .bipush (-5)] 15 = true := by decide +kernel
theorem kX6_readPolygon_19 : am_dec cX6_readPolygon 19 [.aload_n 0, .dup] 21 = true := by decide +kernel
theorem kX6_readPolygon_24 : am_dec cX6_readPolygon 24 [.iconst 1, .iadd] 26 = true := by decide +kernel
theorem kX6_readPolygon_29 : am_dec cX6_readPolygon 29 [.aload_n 0, .iconst 0, .iconst 3] 32 = true := by decide +kernel
theorem kX6_readPolygon_38 : am_dec cX6_readPolygon 38 [.iconst 0] 39 = true := by decide +kernel
theorem kX6_readPolygon_40 : am_dec cX6_readPolygon 40 [.aload_n 0] 41 = true := by decide +kernel
theorem kX6_readPolygon_44 : am_dec cX6_readPolygon 44 [.istore_n 1, .aload_n 0] 46 = true := by decide +kernel
theorem kX6_readPolygon_52 : am_dec cX6_readPolygon 52 [.iconst 0] 53 = true := by decide +kernel
theorem kX6_readPolygon_54 : am_dec cX6_readPolygon 54 [.aload_n 0] 55 = true := by decide +kernel
theorem kX6_readPolygon_58 : am_dec cX6_readPolygon 58 [.aload_n 0] 59 = true := by decide +kernel
theorem kX6_readPolygon_62 : am_dec cX6_readPolygon 62 [.aload_n 0] 63 = true := by decide +kernel
theorem kX6_readPolygon_72 : am_dec cX6_readPolygon 72 [.aload_n 0, .bipush (-4)] 75 = true := by decide +kernel
theorem kX6_readPolygon_79 : am_dec cX6_readPolygon 79 [.aload_n 0, .dup] 81 = true := by decide +kernel
theorem kX6_readPolygon_84 : am_dec cX6_readPolygon 84 [.iconst 1, .iadd] 86 = true := by decide +kernel
theorem kX6_readPolygon_89 : am_dec cX6_readPolygon 89 [.aload_n 0] 90 = true := by decide +kernel
theorem kX6_readPolygon_93 : am_dec cX6_readPolygon 93 [.iload_n 1, .aload_n 0] 95 = true := by decide +kernel
theorem kX6_readPolygon_98 : am_dec cX6_readPolygon 98 [.aload_n 0] 99 = true := by decide +kernel
theorem kX6_readPolygon_105 : am_dec cX6_readPolygon 105 [.istore_n 2, .aload_n 0] 107 = true := by decide +kernel
theorem kX6_readPolygon_110 : am_dec cX6_readPolygon 110 [.iload_n 2] 111 = true := by decide +kernel
theorem kX6_readPolygon_114 : am_dec cX6_readPolygon 114 [.astore_n 3, .iconst 0, .istore 4] 118 = true := by decide +kernel
theorem kX6_readPolygon_118 : am_dec cX6_readPolygon 118 [.iload 4, .sipush 800] 123 = true := by decide +kernel
theorem kX6_readPolygon_126 : am_dec cX6_readPolygon 126 [.aload_n 0] 127 = true := by decide +kernel
theorem kX6_readPolygon_130 : am_dec cX6_readPolygon 130 [.iconst 2] 131 = true := by decide +kernel
theorem kX6_readPolygon_134 : am_dec cX6_readPolygon 134 [.aload_n 0] 135 = true := by decide +kernel
theorem kX6_readPolygon_141 : am_dec cX6_readPolygon 141 [.iconst 0] 142 = true := by decide +kernel
theorem kX6_readPolygon_143 : am_dec cX6_readPolygon 143 [.aload_n 0] 144 = true := by decide +kernel
theorem kX6_readPolygon_147 : am_dec cX6_readPolygon 147 [.iload_n 2, .aload_n 0] 149 = true := by decide +kernel
theorem kX6_readPolygon_152 : am_dec cX6_readPolygon 152 [.aload_n 0] 153 = true := by decide +kernel
theorem kX6_readPolygon_162 : am_dec cX6_readPolygon 162 [.aload_n 0, .bipush (-4)] 165 = true := by decide +kernel
theorem kX6_readPolygon_169 : am_dec cX6_readPolygon 169 [.aload_n 0, .dup] 171 = true := by decide +kernel
theorem kX6_readPolygon_174 : am_dec cX6_readPolygon 174 [.iconst 1, .iadd] 176 = true := by decide +kernel
theorem kX6_readPolygon_179 : am_dec cX6_readPolygon 179 [.aload_n 3, .aload_n 3] 181 = true := by decide +kernel
theorem kX6_readPolygon_184 : am_dec cX6_readPolygon 184 [.aload_n 0] 185 = true := by decide +kernel
theorem kX6_readPolygon_188 : am_dec cX6_readPolygon 188 [.aload_n 0] 189 = true := by decide +kernel
theorem kX6_readPolygon_195 : am_dec cX6_readPolygon 195 [.iinc 4 1] 198 = true := by decide +kernel
theorem kX6_readPolygon_201 : am_dec cX6_readPolygon 201 [.aload_n 0] 202 = true := by decide +kernel
theorem kX6_readPolygon_205 : am_dec cX6_readPolygon 205 [.bipush 59] 207 = true := by decide +kernel
theorem kX6_readPolygon_210 : am_dec cX6_readPolygon 210 [.aload_n 0] 211 = true := by decide +kernel
theorem kX6_readPolygon_214 : am_dec cX6_readPolygon 214 [.iload_n 2] 215 = true := by decide +kernel
theorem kX6_readPolygon_221 : am_dec cX6_readPolygon 221 [.aload_n 0, .bipush (-4)] 224 = true := by decide +kernel
theorem kX6_readPolygon_228 : am_dec cX6_readPolygon 228 [.aload_n 3, .iconst 1] 230 = true := by decide +kernel
theorem kX6_readPolygon_233 : am_dec cX6_readPolygon 233 [.aload_n 0, .bipush 59] 236 = true := by decide +kernel
theorem eX6_readPolygon_1 : decode cX6_readPolygon 1 = .ok (.getfield 54, 3) := by decide +kernel
theorem eX6_readPolygon_4 : decode cX6_readPolygon 4 = .ok (.getfield 185, 3) := by decide +kernel
theorem eX6_readPolygon_9 : decode cX6_readPolygon 9 = .ok (.if_icmp .lt 10, 3) := by decide +kernel
theorem eX6_readPolygon_15 : decode cX6_readPolygon 15 = .ok (.invokevirtual 83, 3) := by decide +kernel
theorem eX6_readPolygon_18 : decode cX6_readPolygon 18 = .ok (.ireturn, 1) := by decide +kernel
theorem eX6_readPolygon_21 : decode cX6_readPolygon 21 = .ok (.getfield 28, 3) := by decide +kernel
theorem eX6_readPolygon_26 : decode cX6_readPolygon 26 = .ok (.putfield 28, 3) := by decide +kernel
theorem eX6_readPolygon_32 : decode cX6_readPolygon 32 = .ok (.invokevirtual 160, 3) := by decide +kernel
theorem eX6_readPolygon_35 : decode cX6_readPolygon 35 = .ok (.ifCond .ne 5, 3) := by decide +kernel
theorem eX6_readPolygon_39 : decode cX6_readPolygon 39 = .ok (.ireturn, 1) := by decide +kernel
theorem eX6_readPolygon_41 : decode cX6_readPolygon 41 = .ok (.getfield 31, 3) := by decide +kernel
theorem eX6_readPolygon_46 : decode cX6_readPolygon 46 = .ok (.invokevirtual 176, 3) := by decide +kernel
theorem eX6_readPolygon_49 : decode cX6_readPolygon 49 = .ok (.ifCond .ne 5, 3) := by decide +kernel
theorem eX6_readPolygon_53 : decode cX6_readPolygon 53 = .ok (.ireturn, 1) := by decide +kernel
theorem eX6_readPolygon_55 : decode cX6_readPolygon 55 = .ok (.getfield 54, 3) := by decide +kernel
theorem eX6_readPolygon_59 : decode cX6_readPolygon 59 = .ok (.getfield 34, 3) := by decide +kernel
theorem eX6_readPolygon_63 : decode cX6_readPolygon 63 = .ok (.getfield 31, 3) := by decide +kernel
theorem eX6_readPolygon_66 : decode cX6_readPolygon 66 = .ok (.invokevirtual 179, 3) := by decide +kernel
theorem eX6_readPolygon_69 : decode cX6_readPolygon 69 = .ok (.ifCond .eq 10, 3) := by decide +kernel
theorem eX6_readPolygon_75 : decode cX6_readPolygon 75 = .ok (.invokevirtual 83, 3) := by decide +kernel
theorem eX6_readPolygon_78 : decode cX6_readPolygon 78 = .ok (.ireturn, 1) := by decide +kernel
theorem eX6_readPolygon_81 : decode cX6_readPolygon 81 = .ok (.getfield 28, 3) := by decide +kernel
theorem eX6_readPolygon_86 : decode cX6_readPolygon 86 = .ok (.putfield 28, 3) := by decide +kernel
theorem eX6_readPolygon_90 : decode cX6_readPolygon 90 = .ok (.getfield 54, 3) := by decide +kernel
theorem eX6_readPolygon_95 : decode cX6_readPolygon 95 = .ok (.getfield 34, 3) := by decide +kernel
theorem eX6_readPolygon_99 : decode cX6_readPolygon 99 = .ok (.getfield 31, 3) := by decide +kernel
theorem eX6_readPolygon_102 : decode cX6_readPolygon 102 = .ok (.invokevirtual 188, 3) := by decide +kernel
theorem eX6_readPolygon_107 : decode cX6_readPolygon 107 = .ok (.getfield 54, 3) := by decide +kernel
theorem eX6_readPolygon_111 : decode cX6_readPolygon 111 = .ok (.invokevirtual 192, 3) := by decide +kernel
theorem eX6_readPolygon_123 : decode cX6_readPolygon 123 = .ok (.if_icmp .ge 78, 3) := by decide +kernel
theorem eX6_readPolygon_127 : decode cX6_readPolygon 127 = .ok (.invokevirtual 70, 3) := by decide +kernel
theorem eX6_readPolygon_131 : decode cX6_readPolygon 131 = .ok (.if_icmp .ne 70, 3) := by decide +kernel
theorem eX6_readPolygon_135 : decode cX6_readPolygon 135 = .ok (.invokevirtual 176, 3) := by decide +kernel
theorem eX6_readPolygon_138 : decode cX6_readPolygon 138 = .ok (.ifCond .ne 5, 3) := by decide +kernel
theorem eX6_readPolygon_142 : decode cX6_readPolygon 142 = .ok (.ireturn, 1) := by decide +kernel
theorem eX6_readPolygon_144 : decode cX6_readPolygon 144 = .ok (.getfield 58, 3) := by decide +kernel
theorem eX6_readPolygon_149 : decode cX6_readPolygon 149 = .ok (.getfield 34, 3) := by decide +kernel
theorem eX6_readPolygon_153 : decode cX6_readPolygon 153 = .ok (.getfield 31, 3) := by decide +kernel
theorem eX6_readPolygon_156 : decode cX6_readPolygon 156 = .ok (.invokevirtual 196, 3) := by decide +kernel
theorem eX6_readPolygon_159 : decode cX6_readPolygon 159 = .ok (.ifCond .eq 10, 3) := by decide +kernel
theorem eX6_readPolygon_165 : decode cX6_readPolygon 165 = .ok (.invokevirtual 83, 3) := by decide +kernel
theorem eX6_readPolygon_168 : decode cX6_readPolygon 168 = .ok (.ireturn, 1) := by decide +kernel
theorem eX6_readPolygon_171 : decode cX6_readPolygon 171 = .ok (.getfield 28, 3) := by decide +kernel
theorem eX6_readPolygon_176 : decode cX6_readPolygon 176 = .ok (.putfield 28, 3) := by decide +kernel
theorem eX6_readPolygon_181 : decode cX6_readPolygon 181 = .ok (.getfield 201, 3) := by decide +kernel
theorem eX6_readPolygon_185 : decode cX6_readPolygon 185 = .ok (.getfield 34, 3) := by decide +kernel
theorem eX6_readPolygon_189 : decode cX6_readPolygon 189 = .ok (.getfield 31, 3) := by decide +kernel
theorem eX6_readPolygon_192 : decode cX6_readPolygon 192 = .ok (.invokevirtual 206, 3) := by decide +kernel
theorem eX6_readPolygon_198 : decode cX6_readPolygon 198 = .ok (.goto (-80), 3) := by decide +kernel
theorem eX6_readPolygon_202 : decode cX6_readPolygon 202 = .ok (.invokevirtual 70, 3) := by decide +kernel
theorem eX6_readPolygon_207 : decode cX6_readPolygon 207 = .ok (.if_icmp .ne 21, 3) := by decide +kernel
theorem eX6_readPolygon_211 : decode cX6_readPolygon 211 = .ok (.getfield 58, 3) := by decide +kernel
theorem eX6_readPolygon_215 : decode cX6_readPolygon 215 = .ok (.invokevirtual 209, 3) := by decide +kernel
theorem eX6_readPolygon_218 : decode cX6_readPolygon 218 = .ok (.ifCond .eq 10, 3) := by decide +kernel
theorem eX6_readPolygon_224 : decode cX6_readPolygon 224 = .ok (.invokevirtual 83, 3) := by decide +kernel
theorem eX6_readPolygon_227 : decode cX6_readPolygon 227 = .ok (.ireturn, 1) := by decide +kernel
theorem eX6_readPolygon_230 : decode cX6_readPolygon 230 = .ok (.putfield 212, 3) := by decide +kernel
theorem eX6_readPolygon_236 : decode cX6_readPolygon 236 = .ok (.invokevirtual 166, 3) := by decide +kernel
theorem eX6_readPolygon_239 : decode cX6_readPolygon 239 = .ok (.ireturn, 1) := by decide +kernel
theorem kX6_readScore_0 : am_dec cX6_readScore 0 [.aload_n 0] 1 = true := by decide +kernel
theorem kX6_readScore_7 : am_dec cX6_readScore 7 [.aload_n 0, .bipush (-2)] 10 = true := by decide +kernel
theorem kX6_readScore_14 : am_dec cX6_readScore 14 [.aload_n 0, .iconst 1] 16 = true := by decide +kernel
theorem kX6_readScore_19 : am_dec cX6_readScore 19 [.aload_n 0, .dup] 21 = true := by decide +kernel
theorem kX6_readScore_24 : am_dec cX6_readScore 24 [.iconst 1, .iadd] 26 = true := by decide +kernel
theorem kX6_readScore_29 : am_dec cX6_readScore 29 [.aload_n 0, .iconst 0] 31 = true := by decide +kernel
theorem kX6_readScore_34 : am_dec cX6_readScore 34 [.aload_n 0, .iconst 0] 36 = true := by decide +kernel
theorem kX6_readScore_42 : am_dec cX6_readScore 42 [.iconst 0] 43 = true := by decide +kernel
theorem kX6_readScore_44 : am_dec cX6_readScore 44 [.aload_n 0] 45 = true := by decide +kernel
theorem kX6_readScore_48 : am_dec cX6_readScore 48 [.aload_n 0] 49 = true := by decide +kernel
theorem kX6_readScore_52 : am_dec cX6_readScore 52 [.aload_n 0] 53 = true := by decide +kernel
theorem kX6_readScore_59 : am_dec cX6_readScore 59 [.aload_n 0] 60 = true := by decide +kernel
theorem kX6_readScore_66 : am_dec cX6_readScore 66 [.iconst 0] 67 = true := by decide +kernel
theorem kX6_readScore_73 : am_dec cX6_readScore 73 [.aload_n 0, .bipush 59] 76 = true := by decide +kernel
theorem eX6_readScore_1 : decode cX6_readScore 1 = .ok (.getfield 40, 3) := by decide +kernel
theorem eX6_readScore_4 : decode cX6_readScore 4 = .ok (.ifCond .eq 10, 3) := by decide +kernel
theorem eX6_readScore_10 : decode cX6_readScore 10 = .ok (.invokevirtual 83, 3) := by decide +kernel
theorem eX6_readScore_13 : decode cX6_readScore 13 = .ok (.ireturn, 1) := by decide +kernel
theorem eX6_readScore_16 : decode cX6_readScore 16 = .ok (.putfield 40, 3) := by decide +kernel
theorem eX6_readScore_21 : decode cX6_readScore 21 = .ok (.getfield 28, 3) := by decide +kernel
theorem eX6_readScore_26 : decode cX6_readScore 26 = .ok (.putfield 28, 3) := by decide +kernel
theorem eX6_readScore_31 : decode cX6_readScore 31 = .ok (.putfield 37, 3) := by decide +kernel
theorem eX6_readScore_36 : decode cX6_readScore 36 = .ok (.invokevirtual 215, 3) := by decide +kernel
theorem eX6_readScore_39 : decode cX6_readScore 39 = .ok (.ifCond .ne 5, 3) := by decide +kernel
theorem eX6_readScore_43 : decode cX6_readScore 43 = .ok (.ireturn, 1) := by decide +kernel
theorem eX6_readScore_45 : decode cX6_readScore 45 = .ok (.getfield 54, 3) := by decide +kernel
theorem eX6_readScore_49 : decode cX6_readScore 49 = .ok (.getfield 21, 3) := by decide +kernel
theorem eX6_readScore_53 : decode cX6_readScore 53 = .ok (.getfield 37, 3) := by decide +kernel
theorem eX6_readScore_56 : decode cX6_readScore 56 = .ok (.ifCond .lt 10, 3) := by decide +kernel
theorem eX6_readScore_60 : decode cX6_readScore 60 = .ok (.getfield 37, 3) := by decide +kernel
theorem eX6_readScore_63 : decode cX6_readScore 63 = .ok (.goto 4, 3) := by decide +kernel
theorem eX6_readScore_67 : decode cX6_readScore 67 = .ok (.invokestatic 218, 3) := by decide +kernel
theorem eX6_readScore_70 : decode cX6_readScore 70 = .ok (.putfield 224, 3) := by decide +kernel
theorem eX6_readScore_76 : decode cX6_readScore 76 = .ok (.invokevirtual 166, 3) := by decide +kernel
theorem eX6_readScore_79 : decode cX6_readScore 79 = .ok (.ireturn, 1) := by decide +kernel
theorem kX6_readSum_0 : am_dec cX6_readSum 0 [.aload_n 0, .iload_n 1] 2 = true := by decide +kernel
theorem kX6_readSum_5 : am_dec cX6_readSum 5 [.istore_n 2, .iconst 0, .istore_n 3] 8 = true := by decide +kernel
theorem kX6_readSum_8 : am_dec cX6_readSum 8 [.iload_n 3, .sipush 800] 12 = true := by decide +kernel
theorem kX6_readSum_15 : am_dec cX6_readSum 15 [.iload_n 2] 16 = true := by decide +kernel
theorem kX6_readSum_19 : am_dec cX6_readSum 19 [.aload_n 0] 20 = true := by decide +kernel
theorem kX6_readSum_23 : am_dec cX6_readSum 23 [.istore 4, .iload 4, .bipush 43] 29 = true := by decide +kernel
theorem kX6_readSum_32 : am_dec cX6_readSum 32 [.iload 4, .bipush 45] 36 = true := by decide +kernel
theorem kX6_readSum_39 : am_dec cX6_readSum 39 [.iconst 1] 40 = true := by decide +kernel
theorem kX6_readSum_41 : am_dec cX6_readSum 41 [.aload_n 0, .dup] 43 = true := by decide +kernel
theorem kX6_readSum_46 : am_dec cX6_readSum 46 [.iconst 1, .iadd] 48 = true := by decide +kernel
theorem kX6_readSum_51 : am_dec cX6_readSum 51 [.aload_n 0, .iload_n 1] 53 = true := by decide +kernel
theorem kX6_readSum_56 : am_dec cX6_readSum 56 [.istore_n 2, .aload_n 0, .iload 4, .bipush 43] 62 = true := by decide +kernel
theorem kX6_readSum_65 : am_dec cX6_readSum 65 [.bipush (-6)] 67 = true := by decide +kernel
theorem kX6_readSum_70 : am_dec cX6_readSum 70 [.bipush (-7)] 72 = true := by decide +kernel
theorem kX6_readSum_75 : am_dec cX6_readSum 75 [.iinc 3 1] 78 = true := by decide +kernel
theorem kX6_readSum_81 : am_dec cX6_readSum 81 [.iload_n 2] 82 = true := by decide +kernel
theorem eX6_readSum_2 : decode cX6_readSum 2 = .ok (.invokevirtual 227, 3) := by decide +kernel
theorem eX6_readSum_12 : decode cX6_readSum 12 = .ok (.if_icmp .ge 69, 3) := by decide +kernel
theorem eX6_readSum_16 : decode cX6_readSum 16 = .ok (.ifCond .eq 65, 3) := by decide +kernel
theorem eX6_readSum_20 : decode cX6_readSum 20 = .ok (.invokevirtual 70, 3) := by decide +kernel
theorem eX6_readSum_29 : decode cX6_readSum 29 = .ok (.if_icmp .eq 12, 3) := by decide +kernel
theorem eX6_readSum_36 : decode cX6_readSum 36 = .ok (.if_icmp .eq 5, 3) := by decide +kernel
theorem eX6_readSum_40 : decode cX6_readSum 40 = .ok (.ireturn, 1) := by decide +kernel
theorem eX6_readSum_43 : decode cX6_readSum 43 = .ok (.getfield 28, 3) := by decide +kernel
theorem eX6_readSum_48 : decode cX6_readSum 48 = .ok (.putfield 28, 3) := by decide +kernel
theorem eX6_readSum_53 : decode cX6_readSum 53 = .ok (.invokevirtual 227, 3) := by decide +kernel
theorem eX6_readSum_62 : decode cX6_readSum 62 = .ok (.if_icmp .ne 8, 3) := by decide +kernel
theorem eX6_readSum_67 : decode cX6_readSum 67 = .ok (.goto 5, 3) := by decide +kernel
theorem eX6_readSum_72 : decode cX6_readSum 72 = .ok (.invokevirtual 230, 3) := by decide +kernel
theorem eX6_readSum_78 : decode cX6_readSum 78 = .ok (.goto (-70), 3) := by decide +kernel
theorem eX6_readSum_82 : decode cX6_readSum 82 = .ok (.ireturn, 1) := by decide +kernel
theorem kX6_readTerm_0 : am_dec cX6_readTerm 0 [.aload_n 0, .iload_n 1] 2 = true := by decide +kernel
theorem kX6_readTerm_5 : am_dec cX6_readTerm 5 [.istore_n 2, .iconst 0, .istore_n 3] 8 = true := by decide +kernel
theorem kX6_readTerm_8 : am_dec cX6_readTerm 8 [.iload_n 3, .sipush 800] 12 = true := by decide +kernel
theorem kX6_readTerm_15 : am_dec cX6_readTerm 15 [.iload_n 2] 16 = true := by decide +kernel
theorem kX6_readTerm_19 : am_dec cX6_readTerm 19 [.aload_n 0] 20 = true := by decide +kernel
theorem kX6_readTerm_23 : am_dec cX6_readTerm 23 [.istore 4, .iload 4, .bipush 42] 29 = true := by decide +kernel
theorem kX6_readTerm_32 : am_dec cX6_readTerm 32 [.iload 4, .bipush 47] 36 = true := by decide +kernel
theorem kX6_readTerm_39 : am_dec cX6_readTerm 39 [.iconst 1] 40 = true := by decide +kernel
theorem kX6_readTerm_41 : am_dec cX6_readTerm 41 [.aload_n 0, .dup] 43 = true := by decide +kernel
theorem kX6_readTerm_46 : am_dec cX6_readTerm 46 [.iconst 1, .iadd] 48 = true := by decide +kernel
theorem kX6_readTerm_51 : am_dec cX6_readTerm 51 [.aload_n 0, .iload_n 1] 53 = true := by decide +kernel
theorem kX6_readTerm_56 : am_dec cX6_readTerm 56 [.istore_n 2, .aload_n 0, .iload 4, .bipush 42] 62 = true := by decide +kernel
theorem kX6_readTerm_65 : am_dec cX6_readTerm 65 [.bipush (-8)] 67 = true := by decide +kernel
theorem kX6_readTerm_70 : am_dec cX6_readTerm 70 [.bipush (-9)] 72 = true := by decide +kernel
theorem kX6_readTerm_75 : am_dec cX6_readTerm 75 [.iinc 3 1] 78 = true := by decide +kernel
theorem kX6_readTerm_81 : am_dec cX6_readTerm 81 [.iload_n 2] 82 = true := by decide +kernel
theorem eX6_readTerm_2 : decode cX6_readTerm 2 = .ok (.invokevirtual 233, 3) := by decide +kernel
theorem eX6_readTerm_12 : decode cX6_readTerm 12 = .ok (.if_icmp .ge 69, 3) := by decide +kernel
theorem eX6_readTerm_16 : decode cX6_readTerm 16 = .ok (.ifCond .eq 65, 3) := by decide +kernel
theorem eX6_readTerm_20 : decode cX6_readTerm 20 = .ok (.invokevirtual 70, 3) := by decide +kernel
theorem eX6_readTerm_29 : decode cX6_readTerm 29 = .ok (.if_icmp .eq 12, 3) := by decide +kernel
theorem eX6_readTerm_36 : decode cX6_readTerm 36 = .ok (.if_icmp .eq 5, 3) := by decide +kernel
theorem eX6_readTerm_40 : decode cX6_readTerm 40 = .ok (.ireturn, 1) := by decide +kernel
theorem eX6_readTerm_43 : decode cX6_readTerm 43 = .ok (.getfield 28, 3) := by decide +kernel
theorem eX6_readTerm_48 : decode cX6_readTerm 48 = .ok (.putfield 28, 3) := by decide +kernel
theorem eX6_readTerm_53 : decode cX6_readTerm 53 = .ok (.invokevirtual 233, 3) := by decide +kernel
theorem eX6_readTerm_62 : decode cX6_readTerm 62 = .ok (.if_icmp .ne 8, 3) := by decide +kernel
theorem eX6_readTerm_67 : decode cX6_readTerm 67 = .ok (.goto 5, 3) := by decide +kernel
theorem eX6_readTerm_72 : decode cX6_readTerm 72 = .ok (.invokevirtual 230, 3) := by decide +kernel
theorem eX6_readTerm_78 : decode cX6_readTerm 78 = .ok (.goto (-70), 3) := by decide +kernel
theorem eX6_readTerm_82 : decode cX6_readTerm 82 = .ok (.ireturn, 1) := by decide +kernel
theorem kX6_readFactor_0 : am_dec cX6_readFactor 0 [.aload_n 0] 1 = true := by decide +kernel
theorem kX6_readFactor_4 : am_dec cX6_readFactor 4 [.istore_n 2, .iload_n 2, .bipush 40] 8 = true := by decide +kernel
theorem kX6_readFactor_11 : am_dec cX6_readFactor 11 [.iload_n 1, .iconst 4] 13 = true := by decide +kernel
theorem kX6_readFactor_16 : am_dec cX6_readFactor 16 [.aload_n 0, .bipush (-6)] 19 = true := by decide +kernel
theorem kX6_readFactor_23 : am_dec cX6_readFactor 23 [.aload_n 0, .dup] 25 = true := by decide +kernel
theorem kX6_readFactor_28 : am_dec cX6_readFactor 28 [.iconst 1, .iadd] 30 = true := by decide +kernel
theorem kX6_readFactor_33 : am_dec cX6_readFactor 33 [.aload_n 0, .iload_n 1, .iconst 1, .iadd] 37 = true := by decide +kernel
theorem kX6_readFactor_43 : am_dec cX6_readFactor 43 [.aload_n 0, .bipush 41] 46 = true := by decide +kernel
theorem kX6_readFactor_52 : am_dec cX6_readFactor 52 [.iconst 1] 53 = true := by decide +kernel
theorem kX6_readFactor_56 : am_dec cX6_readFactor 56 [.iconst 0] 57 = true := by decide +kernel
theorem kX6_readFactor_58 : am_dec cX6_readFactor 58 [.iload_n 2] 59 = true := by decide +kernel
theorem kX6_readFactor_62 : am_dec cX6_readFactor 62 [.aload_n 0, .dup] 64 = true := by decide +kernel
theorem kX6_readFactor_67 : am_dec cX6_readFactor 67 [.iconst 1, .iadd] 69 = true := by decide +kernel
theorem kX6_readFactor_72 : am_dec cX6_readFactor 72 [.aload_n 0, .iload_n 2] 74 = true := by decide +kernel
theorem kX6_readFactor_77 : am_dec cX6_readFactor 77 [.iconst 1] 78 = true := by decide +kernel
theorem kX6_readFactor_79 : am_dec cX6_readFactor 79 [.iload_n 2, .iconst 2] 81 = true := by decide +kernel
theorem kX6_readFactor_84 : am_dec cX6_readFactor 84 [.aload_n 0, .bipush (-2)] 87 = true := by decide +kernel
theorem kX6_readFactor_91 : am_dec cX6_readFactor 91 [.aload_n 0, .aload_n 0] 93 = true := by decide +kernel
theorem kX6_readFactor_99 : am_dec cX6_readFactor 99 [.aload_n 0] 100 = true := by decide +kernel
theorem kX6_readFactor_103 : am_dec cX6_readFactor 103 [.sipush 9999] 106 = true := by decide +kernel
theorem kX6_readFactor_109 : am_dec cX6_readFactor 109 [.aload_n 0, .bipush (-3)] 112 = true := by decide +kernel
theorem kX6_readFactor_116 : am_dec cX6_readFactor 116 [.aload_n 0, .dup] 118 = true := by decide +kernel
theorem kX6_readFactor_121 : am_dec cX6_readFactor 121 [.iconst 1, .iadd] 123 = true := by decide +kernel
theorem kX6_readFactor_126 : am_dec cX6_readFactor 126 [.aload_n 0, .aload_n 0] 128 = true := by decide +kernel
theorem kX6_readFactor_134 : am_dec cX6_readFactor 134 [.iconst 1] 135 = true := by decide +kernel
theorem eX6_readFactor_1 : decode cX6_readFactor 1 = .ok (.invokevirtual 70, 3) := by decide +kernel
theorem eX6_readFactor_8 : decode cX6_readFactor 8 = .ok (.if_icmp .ne 50, 3) := by decide +kernel
theorem eX6_readFactor_13 : decode cX6_readFactor 13 = .ok (.if_icmp .lt 10, 3) := by decide +kernel
theorem eX6_readFactor_19 : decode cX6_readFactor 19 = .ok (.invokevirtual 83, 3) := by decide +kernel
theorem eX6_readFactor_22 : decode cX6_readFactor 22 = .ok (.ireturn, 1) := by decide +kernel
theorem eX6_readFactor_25 : decode cX6_readFactor 25 = .ok (.getfield 28, 3) := by decide +kernel
theorem eX6_readFactor_30 : decode cX6_readFactor 30 = .ok (.putfield 28, 3) := by decide +kernel
theorem eX6_readFactor_37 : decode cX6_readFactor 37 = .ok (.invokevirtual 215, 3) := by decide +kernel
theorem eX6_readFactor_40 : decode cX6_readFactor 40 = .ok (.ifCond .eq 16, 3) := by decide +kernel
theorem eX6_readFactor_46 : decode cX6_readFactor 46 = .ok (.invokevirtual 166, 3) := by decide +kernel
theorem eX6_readFactor_49 : decode cX6_readFactor 49 = .ok (.ifCond .eq 7, 3) := by decide +kernel
theorem eX6_readFactor_53 : decode cX6_readFactor 53 = .ok (.goto 4, 3) := by decide +kernel
theorem eX6_readFactor_57 : decode cX6_readFactor 57 = .ok (.ireturn, 1) := by decide +kernel
theorem eX6_readFactor_59 : decode cX6_readFactor 59 = .ok (.ifCond .ge 20, 3) := by decide +kernel
theorem eX6_readFactor_64 : decode cX6_readFactor 64 = .ok (.getfield 28, 3) := by decide +kernel
theorem eX6_readFactor_69 : decode cX6_readFactor 69 = .ok (.putfield 28, 3) := by decide +kernel
theorem eX6_readFactor_74 : decode cX6_readFactor 74 = .ok (.invokevirtual 230, 3) := by decide +kernel
theorem eX6_readFactor_78 : decode cX6_readFactor 78 = .ok (.ireturn, 1) := by decide +kernel
theorem eX6_readFactor_81 : decode cX6_readFactor 81 = .ok (.if_icmp .eq 10, 3) := by decide +kernel
theorem eX6_readFactor_87 : decode cX6_readFactor 87 = .ok (.invokevirtual 83, 3) := by decide +kernel
theorem eX6_readFactor_90 : decode cX6_readFactor 90 = .ok (.ireturn, 1) := by decide +kernel
theorem eX6_readFactor_93 : decode cX6_readFactor 93 = .ok (.invokevirtual 148, 3) := by decide +kernel
theorem eX6_readFactor_96 : decode cX6_readFactor 96 = .ok (.putfield 31, 3) := by decide +kernel
theorem eX6_readFactor_100 : decode cX6_readFactor 100 = .ok (.getfield 31, 3) := by decide +kernel
theorem eX6_readFactor_106 : decode cX6_readFactor 106 = .ok (.if_icmp .le 10, 3) := by decide +kernel
theorem eX6_readFactor_112 : decode cX6_readFactor 112 = .ok (.invokevirtual 83, 3) := by decide +kernel
theorem eX6_readFactor_115 : decode cX6_readFactor 115 = .ok (.ireturn, 1) := by decide +kernel
theorem eX6_readFactor_118 : decode cX6_readFactor 118 = .ok (.getfield 28, 3) := by decide +kernel
theorem eX6_readFactor_123 : decode cX6_readFactor 123 = .ok (.putfield 28, 3) := by decide +kernel
theorem eX6_readFactor_128 : decode cX6_readFactor 128 = .ok (.getfield 31, 3) := by decide +kernel
theorem eX6_readFactor_131 : decode cX6_readFactor 131 = .ok (.invokevirtual 230, 3) := by decide +kernel
theorem eX6_readFactor_135 : decode cX6_readFactor 135 = .ok (.ireturn, 1) := by decide +kernel
theorem kX6_addCode_0 : am_dec cX6_addCode 0 [.aload_n 0] 1 = true := by decide +kernel
theorem kX6_addCode_7 : am_dec cX6_addCode 7 [.aload_n 0] 8 = true := by decide +kernel
theorem kX6_addCode_11 : am_dec cX6_addCode 11 [.aload_n 0] 12 = true := by decide +kernel
theorem kX6_addCode_19 : am_dec cX6_addCode 19 [.aload_n 0] 20 = true := by decide +kernel
theorem kX6_addCode_23 : am_dec cX6_addCode 23 [.aload_n 0] 24 = true := by decide +kernel
theorem kX6_addCode_27 : am_dec cX6_addCode 27 [.iload_n 1] 28 = true := by decide +kernel
theorem kX6_addCode_29 : am_dec cX6_addCode 29 [.aload_n 0, .dup] 31 = true := by decide +kernel
theorem kX6_addCode_34 : am_dec cX6_addCode 34 [.iconst 1, .iadd] 36 = true := by decide +kernel
theorem eX6_addCode_1 : decode cX6_addCode 1 = .ok (.getfield 37, 3) := by decide +kernel
theorem eX6_addCode_4 : decode cX6_addCode 4 = .ok (.ifCond .lt 35, 3) := by decide +kernel
theorem eX6_addCode_8 : decode cX6_addCode 8 = .ok (.getfield 37, 3) := by decide +kernel
theorem eX6_addCode_12 : decode cX6_addCode 12 = .ok (.getfield 21, 3) := by decide +kernel
theorem eX6_addCode_15 : decode cX6_addCode 15 = .ok (.arraylength, 1) := by decide +kernel
theorem eX6_addCode_16 : decode cX6_addCode 16 = .ok (.if_icmp .ge 23, 3) := by decide +kernel
theorem eX6_addCode_20 : decode cX6_addCode 20 = .ok (.getfield 21, 3) := by decide +kernel
theorem eX6_addCode_24 : decode cX6_addCode 24 = .ok (.getfield 37, 3) := by decide +kernel
theorem eX6_addCode_28 : decode cX6_addCode 28 = .ok (.iastore, 1) := by decide +kernel
theorem eX6_addCode_31 : decode cX6_addCode 31 = .ok (.getfield 37, 3) := by decide +kernel
theorem eX6_addCode_36 : decode cX6_addCode 36 = .ok (.putfield 37, 3) := by decide +kernel
theorem eX6_addCode_39 : decode cX6_addCode 39 = .ok (.return_, 1) := by decide +kernel
theorem kX7_init_0 : am_dec cX7_init 0 [.aload_n 0] 1 = true := by decide +kernel
theorem kX7_init_4 : am_dec cX7_init 4 [.aload_n 0, .bipush 12] 7 = true := by decide +kernel
theorem kX7_init_12 : am_dec cX7_init 12 [.aload_n 0, .bipush 12] 15 = true := by decide +kernel
theorem kX7_init_20 : am_dec cX7_init 20 [.aload_n 0, .iconst 0] 22 = true := by decide +kernel
theorem kX7_init_25 : am_dec cX7_init 25 [.aload_n 0, .iconst 0] 27 = true := by decide +kernel
theorem kX7_init_30 : am_dec cX7_init 30 [.aload_n 0, .iconst 0] 32 = true := by decide +kernel
theorem eX7_init_1 : decode cX7_init 1 = .ok (.invokespecial 3, 3) := by decide +kernel
theorem eX7_init_7 : decode cX7_init 7 = .ok (.newarray .int, 2) := by decide +kernel
theorem eX7_init_9 : decode cX7_init 9 = .ok (.putfield 9, 3) := by decide +kernel
theorem eX7_init_15 : decode cX7_init 15 = .ok (.newarray .int, 2) := by decide +kernel
theorem eX7_init_17 : decode cX7_init 17 = .ok (.putfield 15, 3) := by decide +kernel
theorem eX7_init_22 : decode cX7_init 22 = .ok (.putfield 18, 3) := by decide +kernel
theorem eX7_init_27 : decode cX7_init 27 = .ok (.putfield 22, 3) := by decide +kernel
theorem eX7_init_32 : decode cX7_init 32 = .ok (.putfield 25, 3) := by decide +kernel
theorem eX7_init_35 : decode cX7_init 35 = .ok (.return_, 1) := by decide +kernel
theorem kX7_start_0 : am_dec cX7_start 0 [.aload_n 0, .iload_n 1] 2 = true := by decide +kernel
theorem kX7_start_5 : am_dec cX7_start 5 [.aload_n 0, .iconst 0] 7 = true := by decide +kernel
theorem kX7_start_10 : am_dec cX7_start 10 [.aload_n 0, .iconst 0] 12 = true := by decide +kernel
theorem kX7_start_15 : am_dec cX7_start 15 [.aload_n 0, .iconst 0, .iload_n 2, .iload_n 3] 19 = true := by decide +kernel
theorem eX7_start_2 : decode cX7_start 2 = .ok (.putfield 18, 3) := by decide +kernel
theorem eX7_start_7 : decode cX7_start 7 = .ok (.putfield 22, 3) := by decide +kernel
theorem eX7_start_12 : decode cX7_start 12 = .ok (.putfield 25, 3) := by decide +kernel
theorem eX7_start_19 : decode cX7_start 19 = .ok (.invokevirtual 29, 3) := by decide +kernel
theorem eX7_start_22 : decode cX7_start 22 = .ok (.return_, 1) := by decide +kernel
theorem kX7_copyFrom_0 : am_dec cX7_copyFrom 0 [.aload_n 1] 1 = true := by decide +kernel
theorem kX7_copyFrom_4 : am_dec cX7_copyFrom 4 [.iconst 0, .aload_n 0] 6 = true := by decide +kernel
theorem kX7_copyFrom_9 : am_dec cX7_copyFrom 9 [.iconst 0, .bipush 12] 12 = true := by decide +kernel
theorem kX7_copyFrom_15 : am_dec cX7_copyFrom 15 [.aload_n 1] 16 = true := by decide +kernel
theorem kX7_copyFrom_19 : am_dec cX7_copyFrom 19 [.iconst 0, .aload_n 0] 21 = true := by decide +kernel
theorem kX7_copyFrom_24 : am_dec cX7_copyFrom 24 [.iconst 0, .bipush 12] 27 = true := by decide +kernel
theorem kX7_copyFrom_30 : am_dec cX7_copyFrom 30 [.aload_n 0, .aload_n 1] 32 = true := by decide +kernel
theorem kX7_copyFrom_38 : am_dec cX7_copyFrom 38 [.aload_n 0, .aload_n 1] 40 = true := by decide +kernel
theorem kX7_copyFrom_46 : am_dec cX7_copyFrom 46 [.aload_n 0, .aload_n 1] 48 = true := by decide +kernel
theorem eX7_copyFrom_1 : decode cX7_copyFrom 1 = .ok (.getfield 9, 3) := by decide +kernel
theorem eX7_copyFrom_6 : decode cX7_copyFrom 6 = .ok (.getfield 9, 3) := by decide +kernel
theorem eX7_copyFrom_12 : decode cX7_copyFrom 12 = .ok (.invokestatic 33, 3) := by decide +kernel
theorem eX7_copyFrom_16 : decode cX7_copyFrom 16 = .ok (.getfield 15, 3) := by decide +kernel
theorem eX7_copyFrom_21 : decode cX7_copyFrom 21 = .ok (.getfield 15, 3) := by decide +kernel
theorem eX7_copyFrom_27 : decode cX7_copyFrom 27 = .ok (.invokestatic 33, 3) := by decide +kernel
theorem eX7_copyFrom_32 : decode cX7_copyFrom 32 = .ok (.getfield 18, 3) := by decide +kernel
theorem eX7_copyFrom_35 : decode cX7_copyFrom 35 = .ok (.putfield 18, 3) := by decide +kernel
theorem eX7_copyFrom_40 : decode cX7_copyFrom 40 = .ok (.getfield 22, 3) := by decide +kernel
theorem eX7_copyFrom_43 : decode cX7_copyFrom 43 = .ok (.putfield 22, 3) := by decide +kernel
theorem eX7_copyFrom_48 : decode cX7_copyFrom 48 = .ok (.getfield 25, 3) := by decide +kernel
theorem eX7_copyFrom_51 : decode cX7_copyFrom 51 = .ok (.putfield 25, 3) := by decide +kernel
theorem eX7_copyFrom_54 : decode cX7_copyFrom 54 = .ok (.return_, 1) := by decide +kernel
theorem kX7_xAt_0 : am_dec cX7_xAt 0 [.iload_n 1] 1 = true := by decide +kernel
theorem kX7_xAt_4 : am_dec cX7_xAt 4 [.iload_n 1, .aload_n 0] 6 = true := by decide +kernel
theorem kX7_xAt_13 : am_dec cX7_xAt 13 [.aload_n 0] 14 = true := by decide +kernel
theorem kX7_xAt_17 : am_dec cX7_xAt 17 [.iload_n 1] 18 = true := by decide +kernel
theorem kX7_xAt_22 : am_dec cX7_xAt 22 [.iconst 0] 23 = true := by decide +kernel
theorem eX7_xAt_1 : decode cX7_xAt 1 = .ok (.ifCond .lt 21, 3) := by decide +kernel
theorem eX7_xAt_6 : decode cX7_xAt 6 = .ok (.getfield 9, 3) := by decide +kernel
theorem eX7_xAt_9 : decode cX7_xAt 9 = .ok (.arraylength, 1) := by decide +kernel
theorem eX7_xAt_10 : decode cX7_xAt 10 = .ok (.if_icmp .ge 12, 3) := by decide +kernel
theorem eX7_xAt_14 : decode cX7_xAt 14 = .ok (.getfield 9, 3) := by decide +kernel
theorem eX7_xAt_18 : decode cX7_xAt 18 = .ok (.iaload, 1) := by decide +kernel
theorem eX7_xAt_19 : decode cX7_xAt 19 = .ok (.goto 4, 3) := by decide +kernel
theorem eX7_xAt_23 : decode cX7_xAt 23 = .ok (.ireturn, 1) := by decide +kernel
theorem kX7_yAt_0 : am_dec cX7_yAt 0 [.iload_n 1] 1 = true := by decide +kernel
theorem kX7_yAt_4 : am_dec cX7_yAt 4 [.iload_n 1, .aload_n 0] 6 = true := by decide +kernel
theorem kX7_yAt_13 : am_dec cX7_yAt 13 [.aload_n 0] 14 = true := by decide +kernel
theorem kX7_yAt_17 : am_dec cX7_yAt 17 [.iload_n 1] 18 = true := by decide +kernel
theorem kX7_yAt_22 : am_dec cX7_yAt 22 [.iconst 0] 23 = true := by decide +kernel
theorem eX7_yAt_1 : decode cX7_yAt 1 = .ok (.ifCond .lt 21, 3) := by decide +kernel
theorem eX7_yAt_6 : decode cX7_yAt 6 = .ok (.getfield 15, 3) := by decide +kernel
theorem eX7_yAt_9 : decode cX7_yAt 9 = .ok (.arraylength, 1) := by decide +kernel
theorem eX7_yAt_10 : decode cX7_yAt 10 = .ok (.if_icmp .ge 12, 3) := by decide +kernel
theorem eX7_yAt_14 : decode cX7_yAt 14 = .ok (.getfield 15, 3) := by decide +kernel
theorem eX7_yAt_18 : decode cX7_yAt 18 = .ok (.iaload, 1) := by decide +kernel
theorem eX7_yAt_19 : decode cX7_yAt 19 = .ok (.goto 4, 3) := by decide +kernel
theorem eX7_yAt_23 : decode cX7_yAt 23 = .ok (.ireturn, 1) := by decide +kernel
theorem kX7_codeOfCorner_0 : am_dec cX7_codeOfCorner 0 [.bipush 100, .aload_n 0, .iload_n 1] 4 = true := by decide +kernel
theorem kX7_codeOfCorner_7 : am_dec cX7_codeOfCorner 7 [.imul, .aload_n 0, .iload_n 1] 10 = true := by decide +kernel
theorem kX7_codeOfCorner_13 : am_dec cX7_codeOfCorner 13 [.iadd] 14 = true := by decide +kernel
theorem eX7_codeOfCorner_4 : decode cX7_codeOfCorner 4 = .ok (.invokevirtual 39, 3) := by decide +kernel
theorem eX7_codeOfCorner_10 : decode cX7_codeOfCorner 10 = .ok (.invokevirtual 43, 3) := by decide +kernel
theorem eX7_codeOfCorner_14 : decode cX7_codeOfCorner 14 = .ok (.ireturn, 1) := by decide +kernel
theorem kX7_placeBehind_0 : am_dec cX7_placeBehind 0 [.iload_n 1, .iconst 1, .iadd, .aload_n 0] 4 = true := by decide +kernel
theorem kX7_placeBehind_10 : am_dec cX7_placeBehind 10 [.iload_n 1, .iconst 1, .iadd] 13 = true := by decide +kernel
theorem kX7_placeBehind_16 : am_dec cX7_placeBehind 16 [.iconst 0] 17 = true := by decide +kernel
theorem eX7_placeBehind_4 : decode cX7_placeBehind 4 = .ok (.getfield 22, 3) := by decide +kernel
theorem eX7_placeBehind_7 : decode cX7_placeBehind 7 = .ok (.if_icmp .ge 9, 3) := by decide +kernel
theorem eX7_placeBehind_13 : decode cX7_placeBehind 13 = .ok (.goto 4, 3) := by decide +kernel
theorem eX7_placeBehind_17 : decode cX7_placeBehind 17 = .ok (.ireturn, 1) := by decide +kernel
theorem kX7_placeBefore_0 : am_dec cX7_placeBefore 0 [.iload_n 1] 1 = true := by decide +kernel
theorem kX7_placeBefore_4 : am_dec cX7_placeBefore 4 [.iload_n 1, .iconst 1, .isub] 7 = true := by decide +kernel
theorem kX7_placeBefore_10 : am_dec cX7_placeBefore 10 [.aload_n 0] 11 = true := by decide +kernel
theorem kX7_placeBefore_14 : am_dec cX7_placeBefore 14 [.iconst 1, .isub] 16 = true := by decide +kernel
theorem eX7_placeBefore_1 : decode cX7_placeBefore 1 = .ok (.ifCond .le 9, 3) := by decide +kernel
theorem eX7_placeBefore_7 : decode cX7_placeBefore 7 = .ok (.goto 9, 3) := by decide +kernel
theorem eX7_placeBefore_11 : decode cX7_placeBefore 11 = .ok (.getfield 22, 3) := by decide +kernel
theorem eX7_placeBefore_16 : decode cX7_placeBefore 16 = .ok (.ireturn, 1) := by decide +kernel
theorem kX7_sideCount_0 : am_dec cX7_sideCount 0 [.aload_n 0] 1 = true := by decide +kernel
theorem kX7_sideCount_7 : am_dec cX7_sideCount 7 [.aload_n 0] 8 = true := by decide +kernel
theorem kX7_sideCount_14 : am_dec cX7_sideCount 14 [.aload_n 0] 15 = true := by decide +kernel
theorem kX7_sideCount_18 : am_dec cX7_sideCount 18 [.iconst 1, .isub] 20 = true := by decide +kernel
theorem eX7_sideCount_1 : decode cX7_sideCount 1 = .ok (.getfield 25, 3) := by decide +kernel
theorem eX7_sideCount_4 : decode cX7_sideCount 4 = .ok (.ifCond .eq 10, 3) := by decide +kernel
theorem eX7_sideCount_8 : decode cX7_sideCount 8 = .ok (.getfield 22, 3) := by decide +kernel
theorem eX7_sideCount_11 : decode cX7_sideCount 11 = .ok (.goto 9, 3) := by decide +kernel
theorem eX7_sideCount_15 : decode cX7_sideCount 15 = .ok (.getfield 22, 3) := by decide +kernel
theorem eX7_sideCount_20 : decode cX7_sideCount 20 = .ok (.ireturn, 1) := by decide +kernel
theorem kX7_insert_0 : am_dec cX7_insert 0 [.aload_n 0] 1 = true := by decide +kernel
theorem kX7_insert_4 : am_dec cX7_insert 4 [.bipush 12] 6 = true := by decide +kernel
theorem kX7_insert_9 : am_dec cX7_insert 9 [.iload_n 1] 10 = true := by decide +kernel
theorem kX7_insert_13 : am_dec cX7_insert 13 [.iload_n 1, .aload_n 0] 15 = true := by decide +kernel
theorem kX7_insert_22 : am_dec cX7_insert 22 [.aload_n 0] 23 = true := by decide +kernel
theorem kX7_insert_26 : am_dec cX7_insert 26 [.istore 4] 28 = true := by decide +kernel
theorem kX7_insert_28 : am_dec cX7_insert 28 [.iload 4, .iload_n 1] 31 = true := by decide +kernel
theorem kX7_insert_34 : am_dec cX7_insert 34 [.aload_n 0] 35 = true := by decide +kernel
theorem kX7_insert_38 : am_dec cX7_insert 38 [.iload 4, .aload_n 0] 41 = true := by decide +kernel
theorem kX7_insert_44 : am_dec cX7_insert 44 [.iload 4, .iconst 1, .isub] 48 = true := by decide +kernel
theorem kX7_insert_50 : am_dec cX7_insert 50 [.aload_n 0] 51 = true := by decide +kernel
theorem kX7_insert_54 : am_dec cX7_insert 54 [.iload 4, .aload_n 0] 57 = true := by decide +kernel
theorem kX7_insert_60 : am_dec cX7_insert 60 [.iload 4, .iconst 1, .isub] 64 = true := by decide +kernel
theorem kX7_insert_66 : am_dec cX7_insert 66 [.iinc 4 (-1)] 69 = true := by decide +kernel
theorem kX7_insert_72 : am_dec cX7_insert 72 [.aload_n 0] 73 = true := by decide +kernel
theorem kX7_insert_76 : am_dec cX7_insert 76 [.iload_n 1, .iload_n 2] 78 = true := by decide +kernel
theorem kX7_insert_79 : am_dec cX7_insert 79 [.aload_n 0] 80 = true := by decide +kernel
theorem kX7_insert_83 : am_dec cX7_insert 83 [.iload_n 1, .iload_n 3] 85 = true := by decide +kernel
theorem kX7_insert_86 : am_dec cX7_insert 86 [.aload_n 0, .dup] 88 = true := by decide +kernel
theorem kX7_insert_91 : am_dec cX7_insert 91 [.iconst 1, .iadd] 93 = true := by decide +kernel
theorem eX7_insert_1 : decode cX7_insert 1 = .ok (.getfield 22, 3) := by decide +kernel
theorem eX7_insert_6 : decode cX7_insert 6 = .ok (.if_icmp .ge 15, 3) := by decide +kernel
theorem eX7_insert_10 : decode cX7_insert 10 = .ok (.ifCond .lt 11, 3) := by decide +kernel
theorem eX7_insert_15 : decode cX7_insert 15 = .ok (.getfield 22, 3) := by decide +kernel
theorem eX7_insert_18 : decode cX7_insert 18 = .ok (.if_icmp .le 4, 3) := by decide +kernel
theorem eX7_insert_21 : decode cX7_insert 21 = .ok (.return_, 1) := by decide +kernel
theorem eX7_insert_23 : decode cX7_insert 23 = .ok (.getfield 22, 3) := by decide +kernel
theorem eX7_insert_31 : decode cX7_insert 31 = .ok (.if_icmp .le 41, 3) := by decide +kernel
theorem eX7_insert_35 : decode cX7_insert 35 = .ok (.getfield 9, 3) := by decide +kernel
theorem eX7_insert_41 : decode cX7_insert 41 = .ok (.getfield 9, 3) := by decide +kernel
theorem eX7_insert_48 : decode cX7_insert 48 = .ok (.iaload, 1) := by decide +kernel
theorem eX7_insert_49 : decode cX7_insert 49 = .ok (.iastore, 1) := by decide +kernel
theorem eX7_insert_51 : decode cX7_insert 51 = .ok (.getfield 15, 3) := by decide +kernel
theorem eX7_insert_57 : decode cX7_insert 57 = .ok (.getfield 15, 3) := by decide +kernel
theorem eX7_insert_64 : decode cX7_insert 64 = .ok (.iaload, 1) := by decide +kernel
theorem eX7_insert_65 : decode cX7_insert 65 = .ok (.iastore, 1) := by decide +kernel
theorem eX7_insert_69 : decode cX7_insert 69 = .ok (.goto (-41), 3) := by decide +kernel
theorem eX7_insert_73 : decode cX7_insert 73 = .ok (.getfield 9, 3) := by decide +kernel
theorem eX7_insert_78 : decode cX7_insert 78 = .ok (.iastore, 1) := by decide +kernel
theorem eX7_insert_80 : decode cX7_insert 80 = .ok (.getfield 15, 3) := by decide +kernel
theorem eX7_insert_85 : decode cX7_insert 85 = .ok (.iastore, 1) := by decide +kernel
theorem eX7_insert_88 : decode cX7_insert 88 = .ok (.getfield 22, 3) := by decide +kernel
theorem eX7_insert_93 : decode cX7_insert 93 = .ok (.putfield 22, 3) := by decide +kernel
theorem eX7_insert_96 : decode cX7_insert 96 = .ok (.return_, 1) := by decide +kernel
theorem kX7_dropCorner_0 : am_dec cX7_dropCorner 0 [.iload_n 1] 1 = true := by decide +kernel
theorem kX7_dropCorner_4 : am_dec cX7_dropCorner 4 [.iload_n 1, .aload_n 0] 6 = true := by decide +kernel
theorem kX7_dropCorner_13 : am_dec cX7_dropCorner 13 [.iload_n 1, .iconst 1, .iadd, .istore_n 2] 17 = true := by decide +kernel
theorem kX7_dropCorner_17 : am_dec cX7_dropCorner 17 [.iload_n 2, .aload_n 0] 19 = true := by decide +kernel
theorem kX7_dropCorner_25 : am_dec cX7_dropCorner 25 [.iload_n 2, .bipush 12] 28 = true := by decide +kernel
theorem kX7_dropCorner_31 : am_dec cX7_dropCorner 31 [.aload_n 0] 32 = true := by decide +kernel
theorem kX7_dropCorner_35 : am_dec cX7_dropCorner 35 [.iload_n 2, .iconst 1, .isub, .aload_n 0] 39 = true := by decide +kernel
theorem kX7_dropCorner_42 : am_dec cX7_dropCorner 42 [.iload_n 2] 43 = true := by decide +kernel
theorem kX7_dropCorner_45 : am_dec cX7_dropCorner 45 [.aload_n 0] 46 = true := by decide +kernel
theorem kX7_dropCorner_49 : am_dec cX7_dropCorner 49 [.iload_n 2, .iconst 1, .isub, .aload_n 0] 53 = true := by decide +kernel
theorem kX7_dropCorner_56 : am_dec cX7_dropCorner 56 [.iload_n 2] 57 = true := by decide +kernel
theorem kX7_dropCorner_59 : am_dec cX7_dropCorner 59 [.iinc 2 1] 62 = true := by decide +kernel
theorem kX7_dropCorner_65 : am_dec cX7_dropCorner 65 [.aload_n 0, .dup] 67 = true := by decide +kernel
theorem kX7_dropCorner_70 : am_dec cX7_dropCorner 70 [.iconst 1, .isub] 72 = true := by decide +kernel
theorem eX7_dropCorner_1 : decode cX7_dropCorner 1 = .ok (.ifCond .lt 11, 3) := by decide +kernel
theorem eX7_dropCorner_6 : decode cX7_dropCorner 6 = .ok (.getfield 22, 3) := by decide +kernel
theorem eX7_dropCorner_9 : decode cX7_dropCorner 9 = .ok (.if_icmp .lt 4, 3) := by decide +kernel
theorem eX7_dropCorner_12 : decode cX7_dropCorner 12 = .ok (.return_, 1) := by decide +kernel
theorem eX7_dropCorner_19 : decode cX7_dropCorner 19 = .ok (.getfield 22, 3) := by decide +kernel
theorem eX7_dropCorner_22 : decode cX7_dropCorner 22 = .ok (.if_icmp .ge 43, 3) := by decide +kernel
theorem eX7_dropCorner_28 : decode cX7_dropCorner 28 = .ok (.if_icmp .ge 37, 3) := by decide +kernel
theorem eX7_dropCorner_32 : decode cX7_dropCorner 32 = .ok (.getfield 9, 3) := by decide +kernel
theorem eX7_dropCorner_39 : decode cX7_dropCorner 39 = .ok (.getfield 9, 3) := by decide +kernel
theorem eX7_dropCorner_43 : decode cX7_dropCorner 43 = .ok (.iaload, 1) := by decide +kernel
theorem eX7_dropCorner_44 : decode cX7_dropCorner 44 = .ok (.iastore, 1) := by decide +kernel
theorem eX7_dropCorner_46 : decode cX7_dropCorner 46 = .ok (.getfield 15, 3) := by decide +kernel
theorem eX7_dropCorner_53 : decode cX7_dropCorner 53 = .ok (.getfield 15, 3) := by decide +kernel
theorem eX7_dropCorner_57 : decode cX7_dropCorner 57 = .ok (.iaload, 1) := by decide +kernel
theorem eX7_dropCorner_58 : decode cX7_dropCorner 58 = .ok (.iastore, 1) := by decide +kernel
theorem eX7_dropCorner_62 : decode cX7_dropCorner 62 = .ok (.goto (-45), 3) := by decide +kernel
theorem eX7_dropCorner_67 : decode cX7_dropCorner 67 = .ok (.getfield 22, 3) := by decide +kernel
theorem eX7_dropCorner_72 : decode cX7_dropCorner 72 = .ok (.putfield 22, 3) := by decide +kernel
theorem eX7_dropCorner_75 : decode cX7_dropCorner 75 = .ok (.return_, 1) := by decide +kernel
theorem kX7_hasCorner_0 : am_dec cX7_hasCorner 0 [.iconst 0, .istore_n 3] 2 = true := by decide +kernel
theorem kX7_hasCorner_2 : am_dec cX7_hasCorner 2 [.iload_n 3, .aload_n 0] 4 = true := by decide +kernel
theorem kX7_hasCorner_10 : am_dec cX7_hasCorner 10 [.aload_n 0, .iload_n 3] 12 = true := by decide +kernel
theorem kX7_hasCorner_15 : am_dec cX7_hasCorner 15 [.iload_n 1] 16 = true := by decide +kernel
theorem kX7_hasCorner_19 : am_dec cX7_hasCorner 19 [.aload_n 0, .iload_n 3] 21 = true := by decide +kernel
theorem kX7_hasCorner_24 : am_dec cX7_hasCorner 24 [.iload_n 2] 25 = true := by decide +kernel
theorem kX7_hasCorner_28 : am_dec cX7_hasCorner 28 [.iconst 1] 29 = true := by decide +kernel
theorem kX7_hasCorner_30 : am_dec cX7_hasCorner 30 [.iinc 3 1] 33 = true := by decide +kernel
theorem kX7_hasCorner_36 : am_dec cX7_hasCorner 36 [.iconst 0] 37 = true := by decide +kernel
theorem eX7_hasCorner_4 : decode cX7_hasCorner 4 = .ok (.getfield 22, 3) := by decide +kernel
theorem eX7_hasCorner_7 : decode cX7_hasCorner 7 = .ok (.if_icmp .ge 29, 3) := by decide +kernel
theorem eX7_hasCorner_12 : decode cX7_hasCorner 12 = .ok (.invokevirtual 39, 3) := by decide +kernel
theorem eX7_hasCorner_16 : decode cX7_hasCorner 16 = .ok (.if_icmp .ne 14, 3) := by decide +kernel
theorem eX7_hasCorner_21 : decode cX7_hasCorner 21 = .ok (.invokevirtual 43, 3) := by decide +kernel
theorem eX7_hasCorner_25 : decode cX7_hasCorner 25 = .ok (.if_icmp .ne 5, 3) := by decide +kernel
theorem eX7_hasCorner_29 : decode cX7_hasCorner 29 = .ok (.ireturn, 1) := by decide +kernel
theorem eX7_hasCorner_33 : decode cX7_hasCorner 33 = .ok (.goto (-31), 3) := by decide +kernel
theorem eX7_hasCorner_37 : decode cX7_hasCorner 37 = .ok (.ireturn, 1) := by decide +kernel
theorem kX7_hasOnSide_0 : am_dec cX7_hasOnSide 0 [.iconst 0, .istore_n 3] 2 = true := by decide +kernel
theorem kX7_hasOnSide_2 : am_dec cX7_hasOnSide 2 [.iload_n 3, .aload_n 0] 4 = true := by decide +kernel
theorem kX7_hasOnSide_10 : am_dec cX7_hasOnSide 10 [.aload_n 0, .iload_n 3] 12 = true := by decide +kernel
theorem kX7_hasOnSide_15 : am_dec cX7_hasOnSide 15 [.istore 4, .aload_n 0, .iload_n 3] 19 = true := by decide +kernel
theorem kX7_hasOnSide_22 : am_dec cX7_hasOnSide 22 [.aload_n 0, .iload_n 3] 24 = true := by decide +kernel
theorem kX7_hasOnSide_27 : am_dec cX7_hasOnSide 27 [.aload_n 0, .iload 4] 30 = true := by decide +kernel
theorem kX7_hasOnSide_33 : am_dec cX7_hasOnSide 33 [.aload_n 0, .iload 4] 36 = true := by decide +kernel
theorem kX7_hasOnSide_39 : am_dec cX7_hasOnSide 39 [.iload_n 1, .iload_n 2] 41 = true := by decide +kernel
theorem kX7_hasOnSide_47 : am_dec cX7_hasOnSide 47 [.iconst 1] 48 = true := by decide +kernel
theorem kX7_hasOnSide_49 : am_dec cX7_hasOnSide 49 [.iinc 3 1] 52 = true := by decide +kernel
theorem kX7_hasOnSide_55 : am_dec cX7_hasOnSide 55 [.iconst 0] 56 = true := by decide +kernel
theorem eX7_hasOnSide_4 : decode cX7_hasOnSide 4 = .ok (.invokevirtual 46, 3) := by decide +kernel
theorem eX7_hasOnSide_7 : decode cX7_hasOnSide 7 = .ok (.if_icmp .ge 48, 3) := by decide +kernel
theorem eX7_hasOnSide_12 : decode cX7_hasOnSide 12 = .ok (.invokevirtual 50, 3) := by decide +kernel
theorem eX7_hasOnSide_19 : decode cX7_hasOnSide 19 = .ok (.invokevirtual 39, 3) := by decide +kernel
theorem eX7_hasOnSide_24 : decode cX7_hasOnSide 24 = .ok (.invokevirtual 43, 3) := by decide +kernel
theorem eX7_hasOnSide_30 : decode cX7_hasOnSide 30 = .ok (.invokevirtual 39, 3) := by decide +kernel
theorem eX7_hasOnSide_36 : decode cX7_hasOnSide 36 = .ok (.invokevirtual 43, 3) := by decide +kernel
theorem eX7_hasOnSide_41 : decode cX7_hasOnSide 41 = .ok (.invokestatic 53, 3) := by decide +kernel
theorem eX7_hasOnSide_44 : decode cX7_hasOnSide 44 = .ok (.ifCond .eq 5, 3) := by decide +kernel
theorem eX7_hasOnSide_48 : decode cX7_hasOnSide 48 = .ok (.ireturn, 1) := by decide +kernel
theorem eX7_hasOnSide_52 : decode cX7_hasOnSide 52 = .ok (.goto (-50), 3) := by decide +kernel
theorem eX7_hasOnSide_56 : decode cX7_hasOnSide 56 = .ok (.ireturn, 1) := by decide +kernel
theorem kX7_turnedArea_0 : am_dec cX7_turnedArea 0 [.iconst 0, .istore_n 1, .iconst 0, .istore_n 2] 4 = true := by decide +kernel
theorem kX7_turnedArea_4 : am_dec cX7_turnedArea 4 [.iload_n 2, .aload_n 0] 6 = true := by decide +kernel
theorem kX7_turnedArea_12 : am_dec cX7_turnedArea 12 [.aload_n 0, .iload_n 2] 14 = true := by decide +kernel
theorem kX7_turnedArea_17 : am_dec cX7_turnedArea 17 [.istore_n 3, .iload_n 1, .aload_n 0, .iload_n 2] 21 = true := by decide +kernel
theorem kX7_turnedArea_24 : am_dec cX7_turnedArea 24 [.aload_n 0, .iload_n 3] 26 = true := by decide +kernel
theorem kX7_turnedArea_29 : am_dec cX7_turnedArea 29 [.imul, .aload_n 0, .iload_n 3] 32 = true := by decide +kernel
theorem kX7_turnedArea_35 : am_dec cX7_turnedArea 35 [.aload_n 0, .iload_n 2] 37 = true := by decide +kernel
theorem kX7_turnedArea_40 : am_dec cX7_turnedArea 40 [.imul, .isub, .iadd, .istore_n 1, .iinc 2 1] 47 = true := by decide +kernel
theorem kX7_turnedArea_50 : am_dec cX7_turnedArea 50 [.iload_n 1] 51 = true := by decide +kernel
theorem eX7_turnedArea_6 : decode cX7_turnedArea 6 = .ok (.getfield 22, 3) := by decide +kernel
theorem eX7_turnedArea_9 : decode cX7_turnedArea 9 = .ok (.if_icmp .ge 41, 3) := by decide +kernel
theorem eX7_turnedArea_14 : decode cX7_turnedArea 14 = .ok (.invokevirtual 50, 3) := by decide +kernel
theorem eX7_turnedArea_21 : decode cX7_turnedArea 21 = .ok (.invokevirtual 39, 3) := by decide +kernel
theorem eX7_turnedArea_26 : decode cX7_turnedArea 26 = .ok (.invokevirtual 43, 3) := by decide +kernel
theorem eX7_turnedArea_32 : decode cX7_turnedArea 32 = .ok (.invokevirtual 39, 3) := by decide +kernel
theorem eX7_turnedArea_37 : decode cX7_turnedArea 37 = .ok (.invokevirtual 43, 3) := by decide +kernel
theorem eX7_turnedArea_47 : decode cX7_turnedArea 47 = .ok (.goto (-43), 3) := by decide +kernel
theorem eX7_turnedArea_51 : decode cX7_turnedArea 51 = .ok (.ireturn, 1) := by decide +kernel
theorem kX7_doubledArea_0 : am_dec cX7_doubledArea 0 [.aload_n 0] 1 = true := by decide +kernel
theorem eX7_doubledArea_1 : decode cX7_doubledArea 1 = .ok (.invokevirtual 59, 3) := by decide +kernel
theorem eX7_doubledArea_4 : decode cX7_doubledArea 4 = .ok (.invokestatic 62, 3) := by decide +kernel
theorem eX7_doubledArea_7 : decode cX7_doubledArea 7 = .ok (.ireturn, 1) := by decide +kernel
theorem kX7_borderPoints_0 : am_dec cX7_borderPoints 0 [.iconst 0, .istore_n 1, .iconst 0, .istore_n 2] 4 = true := by decide +kernel
theorem kX7_borderPoints_4 : am_dec cX7_borderPoints 4 [.iload_n 2, .aload_n 0] 6 = true := by decide +kernel
theorem kX7_borderPoints_12 : am_dec cX7_borderPoints 12 [.aload_n 0, .iload_n 2] 14 = true := by decide +kernel
theorem kX7_borderPoints_17 : am_dec cX7_borderPoints 17 [.istore_n 3, .iload_n 1, .aload_n 0, .iload_n 3] 21 = true := by decide +kernel
theorem kX7_borderPoints_24 : am_dec cX7_borderPoints 24 [.aload_n 0, .iload_n 2] 26 = true := by decide +kernel
theorem kX7_borderPoints_29 : am_dec cX7_borderPoints 29 [.isub, .aload_n 0, .iload_n 3] 32 = true := by decide +kernel
theorem kX7_borderPoints_35 : am_dec cX7_borderPoints 35 [.aload_n 0, .iload_n 2] 37 = true := by decide +kernel
theorem kX7_borderPoints_40 : am_dec cX7_borderPoints 40 [.isub] 41 = true := by decide +kernel
theorem kX7_borderPoints_44 : am_dec cX7_borderPoints 44 [.iadd, .istore_n 1, .iinc 2 1] 49 = true := by decide +kernel
theorem kX7_borderPoints_52 : am_dec cX7_borderPoints 52 [.iload_n 1] 53 = true := by decide +kernel
theorem eX7_borderPoints_6 : decode cX7_borderPoints 6 = .ok (.getfield 22, 3) := by decide +kernel
theorem eX7_borderPoints_9 : decode cX7_borderPoints 9 = .ok (.if_icmp .ge 43, 3) := by decide +kernel
theorem eX7_borderPoints_14 : decode cX7_borderPoints 14 = .ok (.invokevirtual 50, 3) := by decide +kernel
theorem eX7_borderPoints_21 : decode cX7_borderPoints 21 = .ok (.invokevirtual 39, 3) := by decide +kernel
theorem eX7_borderPoints_26 : decode cX7_borderPoints 26 = .ok (.invokevirtual 39, 3) := by decide +kernel
theorem eX7_borderPoints_32 : decode cX7_borderPoints 32 = .ok (.invokevirtual 43, 3) := by decide +kernel
theorem eX7_borderPoints_37 : decode cX7_borderPoints 37 = .ok (.invokevirtual 43, 3) := by decide +kernel
theorem eX7_borderPoints_41 : decode cX7_borderPoints 41 = .ok (.invokestatic 67, 3) := by decide +kernel
theorem eX7_borderPoints_49 : decode cX7_borderPoints 49 = .ok (.goto (-45), 3) := by decide +kernel
theorem eX7_borderPoints_53 : decode cX7_borderPoints 53 = .ok (.ireturn, 1) := by decide +kernel
theorem kX7_innerPoints_0 : am_dec cX7_innerPoints 0 [.aload_n 0] 1 = true := by decide +kernel
theorem kX7_innerPoints_4 : am_dec cX7_innerPoints 4 [.aload_n 0] 5 = true := by decide +kernel
theorem kX7_innerPoints_8 : am_dec cX7_innerPoints 8 [.isub, .iconst 2, .iadd, .iconst 2] 12 = true := by decide +kernel
theorem eX7_innerPoints_1 : decode cX7_innerPoints 1 = .ok (.invokevirtual 71, 3) := by decide +kernel
theorem eX7_innerPoints_5 : decode cX7_innerPoints 5 = .ok (.invokevirtual 74, 3) := by decide +kernel
theorem eX7_innerPoints_12 : decode cX7_innerPoints 12 = .ok (.idiv, 1) := by decide +kernel
theorem eX7_innerPoints_13 : decode cX7_innerPoints 13 = .ok (.ireturn, 1) := by decide +kernel
theorem kX7_dentCount_0 : am_dec cX7_dentCount 0 [.aload_n 0] 1 = true := by decide +kernel
theorem kX7_dentCount_7 : am_dec cX7_dentCount 7 [.iconst 1] 8 = true := by decide +kernel
theorem kX7_dentCount_11 : am_dec cX7_dentCount 11 [.iconst 0] 12 = true := by decide +kernel
theorem kX7_dentCount_12 : am_dec cX7_dentCount 12 [.istore_n 1, .iconst 0, .istore_n 2, .iconst 0, .istore_n 3] 17 = true := by decide +kernel
theorem kX7_dentCount_17 : am_dec cX7_dentCount 17 [.iload_n 3, .aload_n 0] 19 = true := by decide +kernel
theorem kX7_dentCount_25 : am_dec cX7_dentCount 25 [.aload_n 0, .iload_n 3] 27 = true := by decide +kernel
theorem kX7_dentCount_30 : am_dec cX7_dentCount 30 [.istore 4, .aload_n 0, .iload_n 3] 34 = true := by decide +kernel
theorem kX7_dentCount_37 : am_dec cX7_dentCount 37 [.istore 5, .aload_n 0, .iload 4] 42 = true := by decide +kernel
theorem kX7_dentCount_45 : am_dec cX7_dentCount 45 [.aload_n 0, .iload 4] 48 = true := by decide +kernel
theorem kX7_dentCount_51 : am_dec cX7_dentCount 51 [.aload_n 0, .iload_n 3] 53 = true := by decide +kernel
theorem kX7_dentCount_56 : am_dec cX7_dentCount 56 [.aload_n 0, .iload_n 3] 58 = true := by decide +kernel
theorem kX7_dentCount_61 : am_dec cX7_dentCount 61 [.aload_n 0, .iload 5] 64 = true := by decide +kernel
theorem kX7_dentCount_67 : am_dec cX7_dentCount 67 [.aload_n 0, .iload 5] 70 = true := by decide +kernel
theorem kX7_dentCount_76 : am_dec cX7_dentCount 76 [.istore 6, .iload_n 1] 79 = true := by decide +kernel
theorem kX7_dentCount_82 : am_dec cX7_dentCount 82 [.iload 6] 84 = true := by decide +kernel
theorem kX7_dentCount_90 : am_dec cX7_dentCount 90 [.iload 6] 92 = true := by decide +kernel
theorem kX7_dentCount_95 : am_dec cX7_dentCount 95 [.iinc 2 1] 98 = true := by decide +kernel
theorem kX7_dentCount_98 : am_dec cX7_dentCount 98 [.iinc 3 1] 101 = true := by decide +kernel
theorem kX7_dentCount_104 : am_dec cX7_dentCount 104 [.iload_n 2] 105 = true := by decide +kernel
theorem eX7_dentCount_1 : decode cX7_dentCount 1 = .ok (.invokevirtual 59, 3) := by decide +kernel
theorem eX7_dentCount_4 : decode cX7_dentCount 4 = .ok (.ifCond .le 7, 3) := by decide +kernel
theorem eX7_dentCount_8 : decode cX7_dentCount 8 = .ok (.goto 4, 3) := by decide +kernel
theorem eX7_dentCount_19 : decode cX7_dentCount 19 = .ok (.getfield 22, 3) := by decide +kernel
theorem eX7_dentCount_22 : decode cX7_dentCount 22 = .ok (.if_icmp .ge 82, 3) := by decide +kernel
theorem eX7_dentCount_27 : decode cX7_dentCount 27 = .ok (.invokevirtual 77, 3) := by decide +kernel
theorem eX7_dentCount_34 : decode cX7_dentCount 34 = .ok (.invokevirtual 50, 3) := by decide +kernel
theorem eX7_dentCount_42 : decode cX7_dentCount 42 = .ok (.invokevirtual 39, 3) := by decide +kernel
theorem eX7_dentCount_48 : decode cX7_dentCount 48 = .ok (.invokevirtual 43, 3) := by decide +kernel
theorem eX7_dentCount_53 : decode cX7_dentCount 53 = .ok (.invokevirtual 39, 3) := by decide +kernel
theorem eX7_dentCount_58 : decode cX7_dentCount 58 = .ok (.invokevirtual 43, 3) := by decide +kernel
theorem eX7_dentCount_64 : decode cX7_dentCount 64 = .ok (.invokevirtual 39, 3) := by decide +kernel
theorem eX7_dentCount_70 : decode cX7_dentCount 70 = .ok (.invokevirtual 43, 3) := by decide +kernel
theorem eX7_dentCount_73 : decode cX7_dentCount 73 = .ok (.invokestatic 80, 3) := by decide +kernel
theorem eX7_dentCount_79 : decode cX7_dentCount 79 = .ok (.ifCond .eq 11, 3) := by decide +kernel
theorem eX7_dentCount_84 : decode cX7_dentCount 84 = .ok (.ifCond .ge 14, 3) := by decide +kernel
theorem eX7_dentCount_87 : decode cX7_dentCount 87 = .ok (.goto 8, 3) := by decide +kernel
theorem eX7_dentCount_92 : decode cX7_dentCount 92 = .ok (.ifCond .le 6, 3) := by decide +kernel
theorem eX7_dentCount_101 : decode cX7_dentCount 101 = .ok (.goto (-84), 3) := by decide +kernel
theorem eX7_dentCount_105 : decode cX7_dentCount 105 = .ok (.ireturn, 1) := by decide +kernel
theorem kX7_situationOf_0 : am_dec cX7_situationOf 0 [.aload_n 0, .iload_n 1, .iload_n 2] 3 = true := by decide +kernel
theorem kX7_situationOf_9 : am_dec cX7_situationOf 9 [.iconst 1] 10 = true := by decide +kernel
theorem kX7_situationOf_11 : am_dec cX7_situationOf 11 [.iconst 0, .istore_n 3, .iconst 0, .istore 4] 16 = true := by decide +kernel
theorem kX7_situationOf_16 : am_dec cX7_situationOf 16 [.iload 4, .aload_n 0] 19 = true := by decide +kernel
theorem kX7_situationOf_25 : am_dec cX7_situationOf 25 [.aload_n 0, .iload_n 1, .iload_n 2, .iload 4] 30 = true := by decide +kernel
theorem kX7_situationOf_36 : am_dec cX7_situationOf 36 [.iload_n 3] 37 = true := by decide +kernel
theorem kX7_situationOf_40 : am_dec cX7_situationOf 40 [.iconst 1] 41 = true := by decide +kernel
theorem kX7_situationOf_44 : am_dec cX7_situationOf 44 [.iconst 0] 45 = true := by decide +kernel
theorem kX7_situationOf_45 : am_dec cX7_situationOf 45 [.istore_n 3] 46 = true := by decide +kernel
theorem kX7_situationOf_46 : am_dec cX7_situationOf 46 [.iinc 4 1] 49 = true := by decide +kernel
theorem kX7_situationOf_52 : am_dec cX7_situationOf 52 [.iload_n 3] 53 = true := by decide +kernel
theorem kX7_situationOf_56 : am_dec cX7_situationOf 56 [.iconst 2] 57 = true := by decide +kernel
theorem kX7_situationOf_60 : am_dec cX7_situationOf 60 [.iconst 0] 61 = true := by decide +kernel
theorem eX7_situationOf_3 : decode cX7_situationOf 3 = .ok (.invokevirtual 84, 3) := by decide +kernel
theorem eX7_situationOf_6 : decode cX7_situationOf 6 = .ok (.ifCond .eq 5, 3) := by decide +kernel
theorem eX7_situationOf_10 : decode cX7_situationOf 10 = .ok (.ireturn, 1) := by decide +kernel
theorem eX7_situationOf_19 : decode cX7_situationOf 19 = .ok (.getfield 22, 3) := by decide +kernel
theorem eX7_situationOf_22 : decode cX7_situationOf 22 = .ok (.if_icmp .ge 30, 3) := by decide +kernel
theorem eX7_situationOf_30 : decode cX7_situationOf 30 = .ok (.invokevirtual 88, 3) := by decide +kernel
theorem eX7_situationOf_33 : decode cX7_situationOf 33 = .ok (.ifCond .eq 13, 3) := by decide +kernel
theorem eX7_situationOf_37 : decode cX7_situationOf 37 = .ok (.ifCond .ne 7, 3) := by decide +kernel
theorem eX7_situationOf_41 : decode cX7_situationOf 41 = .ok (.goto 4, 3) := by decide +kernel
theorem eX7_situationOf_49 : decode cX7_situationOf 49 = .ok (.goto (-33), 3) := by decide +kernel
theorem eX7_situationOf_53 : decode cX7_situationOf 53 = .ok (.ifCond .eq 7, 3) := by decide +kernel
theorem eX7_situationOf_57 : decode cX7_situationOf 57 = .ok (.goto 4, 3) := by decide +kernel
theorem eX7_situationOf_61 : decode cX7_situationOf 61 = .ok (.ireturn, 1) := by decide +kernel
theorem kX7_isRightOf_0 : am_dec cX7_isRightOf 0 [.aload_n 0, .iload_n 3] 2 = true := by decide +kernel
theorem kX7_isRightOf_5 : am_dec cX7_isRightOf 5 [.istore 4, .aload_n 0, .iload_n 3] 9 = true := by decide +kernel
theorem kX7_isRightOf_12 : am_dec cX7_isRightOf 12 [.iload_n 2] 13 = true := by decide +kernel
theorem kX7_isRightOf_16 : am_dec cX7_isRightOf 16 [.iconst 1] 17 = true := by decide +kernel
theorem kX7_isRightOf_20 : am_dec cX7_isRightOf 20 [.iconst 0] 21 = true := by decide +kernel
theorem kX7_isRightOf_21 : am_dec cX7_isRightOf 21 [.istore 5, .aload_n 0, .iload 4] 26 = true := by decide +kernel
theorem kX7_isRightOf_29 : am_dec cX7_isRightOf 29 [.iload_n 2] 30 = true := by decide +kernel
theorem kX7_isRightOf_33 : am_dec cX7_isRightOf 33 [.iconst 1] 34 = true := by decide +kernel
theorem kX7_isRightOf_37 : am_dec cX7_isRightOf 37 [.iconst 0] 38 = true := by decide +kernel
theorem kX7_isRightOf_38 : am_dec cX7_isRightOf 38 [.istore 6, .iload 5, .iload 6] 44 = true := by decide +kernel
theorem kX7_isRightOf_47 : am_dec cX7_isRightOf 47 [.iconst 0] 48 = true := by decide +kernel
theorem kX7_isRightOf_49 : am_dec cX7_isRightOf 49 [.aload_n 0, .iload_n 3] 51 = true := by decide +kernel
theorem kX7_isRightOf_54 : am_dec cX7_isRightOf 54 [.aload_n 0, .iload_n 3] 56 = true := by decide +kernel
theorem kX7_isRightOf_59 : am_dec cX7_isRightOf 59 [.aload_n 0, .iload 4] 62 = true := by decide +kernel
theorem kX7_isRightOf_65 : am_dec cX7_isRightOf 65 [.aload_n 0, .iload 4] 68 = true := by decide +kernel
theorem kX7_isRightOf_71 : am_dec cX7_isRightOf 71 [.iload_n 1, .iload_n 2] 73 = true := by decide +kernel
theorem kX7_isRightOf_76 : am_dec cX7_isRightOf 76 [.istore 7, .iload 6] 80 = true := by decide +kernel
theorem kX7_isRightOf_83 : am_dec cX7_isRightOf 83 [.iload 7] 85 = true := by decide +kernel
theorem kX7_isRightOf_88 : am_dec cX7_isRightOf 88 [.iconst 1] 89 = true := by decide +kernel
theorem kX7_isRightOf_92 : am_dec cX7_isRightOf 92 [.iconst 0] 93 = true := by decide +kernel
theorem kX7_isRightOf_96 : am_dec cX7_isRightOf 96 [.iload 7] 98 = true := by decide +kernel
theorem kX7_isRightOf_101 : am_dec cX7_isRightOf 101 [.iconst 1] 102 = true := by decide +kernel
theorem kX7_isRightOf_105 : am_dec cX7_isRightOf 105 [.iconst 0] 106 = true := by decide +kernel
theorem eX7_isRightOf_2 : decode cX7_isRightOf 2 = .ok (.invokevirtual 50, 3) := by decide +kernel
theorem eX7_isRightOf_9 : decode cX7_isRightOf 9 = .ok (.invokevirtual 43, 3) := by decide +kernel
theorem eX7_isRightOf_13 : decode cX7_isRightOf 13 = .ok (.if_icmp .le 7, 3) := by decide +kernel
theorem eX7_isRightOf_17 : decode cX7_isRightOf 17 = .ok (.goto 4, 3) := by decide +kernel
theorem eX7_isRightOf_26 : decode cX7_isRightOf 26 = .ok (.invokevirtual 43, 3) := by decide +kernel
theorem eX7_isRightOf_30 : decode cX7_isRightOf 30 = .ok (.if_icmp .le 7, 3) := by decide +kernel
theorem eX7_isRightOf_34 : decode cX7_isRightOf 34 = .ok (.goto 4, 3) := by decide +kernel
theorem eX7_isRightOf_44 : decode cX7_isRightOf 44 = .ok (.if_icmp .ne 5, 3) := by decide +kernel
theorem eX7_isRightOf_48 : decode cX7_isRightOf 48 = .ok (.ireturn, 1) := by decide +kernel
theorem eX7_isRightOf_51 : decode cX7_isRightOf 51 = .ok (.invokevirtual 39, 3) := by decide +kernel
theorem eX7_isRightOf_56 : decode cX7_isRightOf 56 = .ok (.invokevirtual 43, 3) := by decide +kernel
theorem eX7_isRightOf_62 : decode cX7_isRightOf 62 = .ok (.invokevirtual 39, 3) := by decide +kernel
theorem eX7_isRightOf_68 : decode cX7_isRightOf 68 = .ok (.invokevirtual 43, 3) := by decide +kernel
theorem eX7_isRightOf_73 : decode cX7_isRightOf 73 = .ok (.invokestatic 80, 3) := by decide +kernel
theorem eX7_isRightOf_80 : decode cX7_isRightOf 80 = .ok (.ifCond .eq 16, 3) := by decide +kernel
theorem eX7_isRightOf_85 : decode cX7_isRightOf 85 = .ok (.ifCond .le 7, 3) := by decide +kernel
theorem eX7_isRightOf_89 : decode cX7_isRightOf 89 = .ok (.goto 17, 3) := by decide +kernel
theorem eX7_isRightOf_93 : decode cX7_isRightOf 93 = .ok (.goto 13, 3) := by decide +kernel
theorem eX7_isRightOf_98 : decode cX7_isRightOf 98 = .ok (.ifCond .ge 7, 3) := by decide +kernel
theorem eX7_isRightOf_102 : decode cX7_isRightOf 102 = .ok (.goto 4, 3) := by decide +kernel
theorem eX7_isRightOf_106 : decode cX7_isRightOf 106 = .ok (.ireturn, 1) := by decide +kernel
theorem kX8_init_0 : am_dec cX8_init 0 [.aload_n 0] 1 = true := by decide +kernel
theorem kX8_init_4 : am_dec cX8_init 4 [.aload_n 0, .sipush 800] 8 = true := by decide +kernel
theorem kX8_init_13 : am_dec cX8_init 13 [.aload_n 0] 14 = true := by decide +kernel
theorem kX8_init_17 : am_dec cX8_init 17 [.dup] 18 = true := by decide +kernel
theorem kX8_init_24 : am_dec cX8_init 24 [.aload_n 0] 25 = true := by decide +kernel
theorem kX8_init_28 : am_dec cX8_init 28 [.dup] 29 = true := by decide +kernel
theorem kX8_init_35 : am_dec cX8_init 35 [.aload_n 0] 36 = true := by decide +kernel
theorem kX8_init_39 : am_dec cX8_init 39 [.dup, .aload_n 0] 41 = true := by decide +kernel
theorem kX8_init_50 : am_dec cX8_init 50 [.aload_n 0] 51 = true := by decide +kernel
theorem kX8_init_54 : am_dec cX8_init 54 [.dup, .aload_n 0] 56 = true := by decide +kernel
theorem kX8_init_59 : am_dec cX8_init 59 [.aload_n 0] 60 = true := by decide +kernel
theorem kX8_init_66 : am_dec cX8_init 66 [.dup, .aload_n 0] 68 = true := by decide +kernel
theorem kX8_init_80 : am_dec cX8_init 80 [.aload_n 0] 81 = true := by decide +kernel
theorem kX8_init_84 : am_dec cX8_init 84 [.dup, .aload_n 0] 86 = true := by decide +kernel
theorem kX8_init_95 : am_dec cX8_init 95 [.aload_n 0] 96 = true := by decide +kernel
theorem kX8_init_99 : am_dec cX8_init 99 [.dup] 100 = true := by decide +kernel
theorem kX8_init_106 : am_dec cX8_init 106 [.aload_n 0, .iconst 0] 108 = true := by decide +kernel
theorem kX8_init_111 : am_dec cX8_init 111 [.aload_n 0, .iconst (-1)] 113 = true := by decide +kernel
theorem eX8_init_1 : decode cX8_init 1 = .ok (.invokespecial 1, 3) := by decide +kernel
theorem eX8_init_8 : decode cX8_init 8 = .ok (.newarray .byte, 2) := by decide +kernel
theorem eX8_init_10 : decode cX8_init 10 = .ok (.putfield 9, 3) := by decide +kernel
theorem eX8_init_14 : decode cX8_init 14 = .ok (.new 13, 3) := by decide +kernel
theorem eX8_init_18 : decode cX8_init 18 = .ok (.invokespecial 15, 3) := by decide +kernel
theorem eX8_init_21 : decode cX8_init 21 = .ok (.putfield 16, 3) := by decide +kernel
theorem eX8_init_25 : decode cX8_init 25 = .ok (.new 13, 3) := by decide +kernel
theorem eX8_init_29 : decode cX8_init 29 = .ok (.invokespecial 15, 3) := by decide +kernel
theorem eX8_init_32 : decode cX8_init 32 = .ok (.putfield 20, 3) := by decide +kernel
theorem eX8_init_36 : decode cX8_init 36 = .ok (.new 23, 3) := by decide +kernel
theorem eX8_init_41 : decode cX8_init 41 = .ok (.getfield 16, 3) := by decide +kernel
theorem eX8_init_44 : decode cX8_init 44 = .ok (.invokespecial 25, 3) := by decide +kernel
theorem eX8_init_47 : decode cX8_init 47 = .ok (.putfield 28, 3) := by decide +kernel
theorem eX8_init_51 : decode cX8_init 51 = .ok (.new 32, 3) := by decide +kernel
theorem eX8_init_56 : decode cX8_init 56 = .ok (.getfield 9, 3) := by decide +kernel
theorem eX8_init_60 : decode cX8_init 60 = .ok (.getfield 20, 3) := by decide +kernel
theorem eX8_init_63 : decode cX8_init 63 = .ok (.new 23, 3) := by decide +kernel
theorem eX8_init_68 : decode cX8_init 68 = .ok (.getfield 20, 3) := by decide +kernel
theorem eX8_init_71 : decode cX8_init 71 = .ok (.invokespecial 25, 3) := by decide +kernel
theorem eX8_init_74 : decode cX8_init 74 = .ok (.invokespecial 34, 3) := by decide +kernel
theorem eX8_init_77 : decode cX8_init 77 = .ok (.putfield 37, 3) := by decide +kernel
theorem eX8_init_81 : decode cX8_init 81 = .ok (.new 41, 3) := by decide +kernel
theorem eX8_init_86 : decode cX8_init 86 = .ok (.getfield 16, 3) := by decide +kernel
theorem eX8_init_89 : decode cX8_init 89 = .ok (.invokespecial 43, 3) := by decide +kernel
theorem eX8_init_92 : decode cX8_init 92 = .ok (.putfield 44, 3) := by decide +kernel
theorem eX8_init_96 : decode cX8_init 96 = .ok (.new 48, 3) := by decide +kernel
theorem eX8_init_100 : decode cX8_init 100 = .ok (.invokespecial 50, 3) := by decide +kernel
theorem eX8_init_103 : decode cX8_init 103 = .ok (.putfield 51, 3) := by decide +kernel
theorem eX8_init_108 : decode cX8_init 108 = .ok (.putfield 55, 3) := by decide +kernel
theorem eX8_init_113 : decode cX8_init 113 = .ok (.putfield 59, 3) := by decide +kernel
theorem eX8_init_116 : decode cX8_init 116 = .ok (.return_, 1) := by decide +kernel
theorem kX8_append_0 : am_dec cX8_append 0 [.aload_n 0] 1 = true := by decide +kernel
theorem kX8_append_4 : am_dec cX8_append 4 [.bipush 20, .iadd, .sipush 800] 10 = true := by decide +kernel
theorem kX8_append_13 : am_dec cX8_append 13 [.iconst (-1)] 14 = true := by decide +kernel
theorem kX8_append_15 : am_dec cX8_append 15 [.aload_n 0, .iload_n 1] 17 = true := by decide +kernel
theorem kX8_append_20 : am_dec cX8_append 20 [.aload_n 0, .iload_n 2] 22 = true := by decide +kernel
theorem kX8_append_25 : am_dec cX8_append 25 [.aload_n 0, .iload_n 3] 27 = true := by decide +kernel
theorem kX8_append_30 : am_dec cX8_append 30 [.aload_n 0, .iload 4] 33 = true := by decide +kernel
theorem kX8_append_36 : am_dec cX8_append 36 [.aload_n 0, .iload 5] 39 = true := by decide +kernel
theorem kX8_append_42 : am_dec cX8_append 42 [.aload_n 0] 43 = true := by decide +kernel
theorem eX8_append_1 : decode cX8_append 1 = .ok (.getfield 55, 3) := by decide +kernel
theorem eX8_append_10 : decode cX8_append 10 = .ok (.if_icmp .le 5, 3) := by decide +kernel
theorem eX8_append_14 : decode cX8_append 14 = .ok (.ireturn, 1) := by decide +kernel
theorem eX8_append_17 : decode cX8_append 17 = .ok (.invokevirtual 62, 3) := by decide +kernel
theorem eX8_append_22 : decode cX8_append 22 = .ok (.invokevirtual 62, 3) := by decide +kernel
theorem eX8_append_27 : decode cX8_append 27 = .ok (.invokevirtual 62, 3) := by decide +kernel
theorem eX8_append_33 : decode cX8_append 33 = .ok (.invokevirtual 62, 3) := by decide +kernel
theorem eX8_append_39 : decode cX8_append 39 = .ok (.invokevirtual 62, 3) := by decide +kernel
theorem eX8_append_43 : decode cX8_append 43 = .ok (.getfield 55, 3) := by decide +kernel
theorem eX8_append_46 : decode cX8_append 46 = .ok (.ireturn, 1) := by decide +kernel
theorem kX8_load_0 : am_dec cX8_load 0 [.iload_n 1] 1 = true := by decide +kernel
theorem kX8_load_4 : am_dec cX8_load 4 [.iload_n 1, .aload_n 0] 6 = true := by decide +kernel
theorem kX8_load_15 : am_dec cX8_load 15 [.dup] 16 = true := by decide +kernel
theorem kX8_load_22 : am_dec cX8_load 22 [.aload_n 0, .iconst 0] 24 = true := by decide +kernel
theorem kX8_load_27 : am_dec cX8_load 27 [.aload_n 0] 28 = true := by decide +kernel
theorem kX8_load_31 : am_dec cX8_load 31 [.iload_n 1] 32 = true := by decide +kernel
theorem kX8_load_35 : am_dec cX8_load 35 [.istore_n 2, .aload_n 0, .aload_n 0] 38 = true := by decide +kernel
theorem kX8_load_47 : am_dec cX8_load 47 [.iload_n 2] 48 = true := by decide +kernel
theorem kX8_load_51 : am_dec cX8_load 51 [.aload_n 0] 52 = true := by decide +kernel
theorem kX8_load_59 : am_dec cX8_load 59 [.aload_n 0] 60 = true := by decide +kernel
theorem kX8_load_63 : am_dec cX8_load 63 [.aload_n 0] 64 = true := by decide +kernel
theorem kX8_load_70 : am_dec cX8_load 70 [.aload_n 0] 71 = true := by decide +kernel
theorem kX8_load_74 : am_dec cX8_load 74 [.aload_n 0] 75 = true := by decide +kernel
theorem kX8_load_81 : am_dec cX8_load 81 [.aload_n 0] 82 = true := by decide +kernel
theorem kX8_load_88 : am_dec cX8_load 88 [.aload_n 0] 89 = true := by decide +kernel
theorem eX8_load_1 : decode cX8_load 1 = .ok (.ifCond .lt 11, 3) := by decide +kernel
theorem eX8_load_6 : decode cX8_load 6 = .ok (.getfield 55, 3) := by decide +kernel
theorem eX8_load_9 : decode cX8_load 9 = .ok (.if_icmp .le 13, 3) := by decide +kernel
theorem eX8_load_12 : decode cX8_load 12 = .ok (.new 66, 3) := by decide +kernel
theorem eX8_load_16 : decode cX8_load 16 = .ok (.ldc 68, 2) := by decide +kernel
theorem eX8_load_18 : decode cX8_load 18 = .ok (.invokespecial 70, 3) := by decide +kernel
theorem eX8_load_21 : decode cX8_load 21 = .ok (.athrow, 1) := by decide +kernel
theorem eX8_load_24 : decode cX8_load 24 = .ok (.putfield 55, 3) := by decide +kernel
theorem eX8_load_28 : decode cX8_load 28 = .ok (.getfield 37, 3) := by decide +kernel
theorem eX8_load_32 : decode cX8_load 32 = .ok (.invokevirtual 73, 3) := by decide +kernel
theorem eX8_load_38 : decode cX8_load 38 = .ok (.getfield 37, 3) := by decide +kernel
theorem eX8_load_41 : decode cX8_load 41 = .ok (.getfield 77, 3) := by decide +kernel
theorem eX8_load_44 : decode cX8_load 44 = .ok (.putfield 59, 3) := by decide +kernel
theorem eX8_load_48 : decode cX8_load 48 = .ok (.ifCond .ne 11, 3) := by decide +kernel
theorem eX8_load_52 : decode cX8_load 52 = .ok (.getfield 37, 3) := by decide +kernel
theorem eX8_load_55 : decode cX8_load 55 = .ok (.getfield 80, 3) := by decide +kernel
theorem eX8_load_58 : decode cX8_load 58 = .ok (.ireturn, 1) := by decide +kernel
theorem eX8_load_60 : decode cX8_load 60 = .ok (.getfield 51, 3) := by decide +kernel
theorem eX8_load_64 : decode cX8_load 64 = .ok (.getfield 16, 3) := by decide +kernel
theorem eX8_load_67 : decode cX8_load 67 = .ok (.invokevirtual 83, 3) := by decide +kernel
theorem eX8_load_71 : decode cX8_load 71 = .ok (.getfield 16, 3) := by decide +kernel
theorem eX8_load_75 : decode cX8_load 75 = .ok (.getfield 20, 3) := by decide +kernel
theorem eX8_load_78 : decode cX8_load 78 = .ok (.invokevirtual 86, 3) := by decide +kernel
theorem eX8_load_82 : decode cX8_load 82 = .ok (.getfield 16, 3) := by decide +kernel
theorem eX8_load_85 : decode cX8_load 85 = .ok (.invokevirtual 89, 3) := by decide +kernel
theorem eX8_load_89 : decode cX8_load 89 = .ok (.getfield 16, 3) := by decide +kernel
theorem eX8_load_92 : decode cX8_load 92 = .ok (.getfield 92, 3) := by decide +kernel
theorem eX8_load_95 : decode cX8_load 95 = .ok (.ireturn, 1) := by decide +kernel
theorem kX8_errorOffset_0 : am_dec cX8_errorOffset 0 [.aload_n 0] 1 = true := by decide +kernel
theorem eX8_errorOffset_1 : decode cX8_errorOffset 1 = .ok (.getfield 59, 3) := by decide +kernel
theorem eX8_errorOffset_4 : decode cX8_errorOffset 4 = .ok (.ireturn, 1) := by decide +kernel
theorem kX8_count_0 : am_dec cX8_count 0 [.iload_n 1] 1 = true := by decide +kernel
theorem kX8_count_40 : am_dec cX8_count 40 [.aload_n 0] 41 = true := by decide +kernel
theorem kX8_count_48 : am_dec cX8_count 48 [.aload_n 0] 49 = true := by decide +kernel
theorem kX8_count_56 : am_dec cX8_count 56 [.aload_n 0] 57 = true := by decide +kernel
theorem kX8_count_64 : am_dec cX8_count 64 [.aload_n 0] 65 = true := by decide +kernel
theorem kX8_count_72 : am_dec cX8_count 72 [.aload_n 0] 73 = true := by decide +kernel
theorem kX8_count_80 : am_dec cX8_count 80 [.aload_n 0] 81 = true := by decide +kernel
theorem kX8_count_91 : am_dec cX8_count 91 [.dup] 92 = true := by decide +kernel
theorem eX8_count_1 : decode cX8_count 1 = .ok (.tableswitch 87 0 5 #[39, 47, 55, 63, 71, 79], 39) := by decide +kernel
theorem eX8_count_41 : decode cX8_count 41 = .ok (.getfield 16, 3) := by decide +kernel
theorem eX8_count_44 : decode cX8_count 44 = .ok (.getfield 95, 3) := by decide +kernel
theorem eX8_count_47 : decode cX8_count 47 = .ok (.ireturn, 1) := by decide +kernel
theorem eX8_count_49 : decode cX8_count 49 = .ok (.getfield 16, 3) := by decide +kernel
theorem eX8_count_52 : decode cX8_count 52 = .ok (.getfield 98, 3) := by decide +kernel
theorem eX8_count_55 : decode cX8_count 55 = .ok (.ireturn, 1) := by decide +kernel
theorem eX8_count_57 : decode cX8_count 57 = .ok (.getfield 16, 3) := by decide +kernel
theorem eX8_count_60 : decode cX8_count 60 = .ok (.getfield 101, 3) := by decide +kernel
theorem eX8_count_63 : decode cX8_count 63 = .ok (.ireturn, 1) := by decide +kernel
theorem eX8_count_65 : decode cX8_count 65 = .ok (.getfield 16, 3) := by decide +kernel
theorem eX8_count_68 : decode cX8_count 68 = .ok (.getfield 92, 3) := by decide +kernel
theorem eX8_count_71 : decode cX8_count 71 = .ok (.ireturn, 1) := by decide +kernel
theorem eX8_count_73 : decode cX8_count 73 = .ok (.getfield 16, 3) := by decide +kernel
theorem eX8_count_76 : decode cX8_count 76 = .ok (.invokevirtual 104, 3) := by decide +kernel
theorem eX8_count_79 : decode cX8_count 79 = .ok (.ireturn, 1) := by decide +kernel
theorem eX8_count_81 : decode cX8_count 81 = .ok (.getfield 16, 3) := by decide +kernel
theorem eX8_count_84 : decode cX8_count 84 = .ok (.invokevirtual 108, 3) := by decide +kernel
theorem eX8_count_87 : decode cX8_count 87 = .ok (.ireturn, 1) := by decide +kernel
theorem eX8_count_88 : decode cX8_count 88 = .ok (.new 66, 3) := by decide +kernel
theorem eX8_count_92 : decode cX8_count 92 = .ok (.ldc 111, 2) := by decide +kernel
theorem eX8_count_94 : decode cX8_count 94 = .ok (.invokespecial 70, 3) := by decide +kernel
theorem eX8_count_97 : decode cX8_count 97 = .ok (.athrow, 1) := by decide +kernel
theorem kX8_stone_0 : am_dec cX8_stone 0 [.iload_n 1] 1 = true := by decide +kernel
theorem kX8_stone_4 : am_dec cX8_stone 4 [.iload_n 1, .aload_n 0] 6 = true := by decide +kernel
theorem kX8_stone_18 : am_dec cX8_stone 18 [.dup] 19 = true := by decide +kernel
theorem kX8_stone_25 : am_dec cX8_stone 25 [.iload_n 2] 26 = true := by decide +kernel
theorem kX8_stone_56 : am_dec cX8_stone 56 [.aload_n 0] 57 = true := by decide +kernel
theorem kX8_stone_60 : am_dec cX8_stone 60 [.iload_n 1] 61 = true := by decide +kernel
theorem kX8_stone_65 : am_dec cX8_stone 65 [.aload_n 0] 66 = true := by decide +kernel
theorem kX8_stone_69 : am_dec cX8_stone 69 [.iload_n 1] 70 = true := by decide +kernel
theorem kX8_stone_74 : am_dec cX8_stone 74 [.aload_n 0] 75 = true := by decide +kernel
theorem kX8_stone_78 : am_dec cX8_stone 78 [.iload_n 1] 79 = true := by decide +kernel
theorem kX8_stone_83 : am_dec cX8_stone 83 [.aload_n 0] 84 = true := by decide +kernel
theorem kX8_stone_87 : am_dec cX8_stone 87 [.iload_n 1] 88 = true := by decide +kernel
theorem kX8_stone_95 : am_dec cX8_stone 95 [.dup] 96 = true := by decide +kernel
theorem eX8_stone_1 : decode cX8_stone 1 = .ok (.ifCond .lt 14, 3) := by decide +kernel
theorem eX8_stone_6 : decode cX8_stone 6 = .ok (.getfield 16, 3) := by decide +kernel
theorem eX8_stone_9 : decode cX8_stone 9 = .ok (.getfield 101, 3) := by decide +kernel
theorem eX8_stone_12 : decode cX8_stone 12 = .ok (.if_icmp .lt 13, 3) := by decide +kernel
theorem eX8_stone_15 : decode cX8_stone 15 = .ok (.new 113, 3) := by decide +kernel
theorem eX8_stone_19 : decode cX8_stone 19 = .ok (.ldc 115, 2) := by decide +kernel
theorem eX8_stone_21 : decode cX8_stone 21 = .ok (.invokespecial 117, 3) := by decide +kernel
theorem eX8_stone_24 : decode cX8_stone 24 = .ok (.athrow, 1) := by decide +kernel
theorem eX8_stone_26 : decode cX8_stone 26 = .ok (.tableswitch 66 0 3 #[30, 39, 48, 57], 30) := by decide +kernel
theorem eX8_stone_57 : decode cX8_stone 57 = .ok (.getfield 16, 3) := by decide +kernel
theorem eX8_stone_61 : decode cX8_stone 61 = .ok (.invokevirtual 118, 3) := by decide +kernel
theorem eX8_stone_64 : decode cX8_stone 64 = .ok (.ireturn, 1) := by decide +kernel
theorem eX8_stone_66 : decode cX8_stone 66 = .ok (.getfield 16, 3) := by decide +kernel
theorem eX8_stone_70 : decode cX8_stone 70 = .ok (.invokevirtual 122, 3) := by decide +kernel
theorem eX8_stone_73 : decode cX8_stone 73 = .ok (.ireturn, 1) := by decide +kernel
theorem eX8_stone_75 : decode cX8_stone 75 = .ok (.getfield 16, 3) := by decide +kernel
theorem eX8_stone_79 : decode cX8_stone 79 = .ok (.invokevirtual 125, 3) := by decide +kernel
theorem eX8_stone_82 : decode cX8_stone 82 = .ok (.ireturn, 1) := by decide +kernel
theorem eX8_stone_84 : decode cX8_stone 84 = .ok (.getfield 16, 3) := by decide +kernel
theorem eX8_stone_88 : decode cX8_stone 88 = .ok (.invokevirtual 128, 3) := by decide +kernel
theorem eX8_stone_91 : decode cX8_stone 91 = .ok (.ireturn, 1) := by decide +kernel
theorem eX8_stone_92 : decode cX8_stone 92 = .ok (.new 66, 3) := by decide +kernel
theorem eX8_stone_96 : decode cX8_stone 96 = .ok (.ldc 131, 2) := by decide +kernel
theorem eX8_stone_98 : decode cX8_stone 98 = .ok (.invokespecial 70, 3) := by decide +kernel
theorem eX8_stone_101 : decode cX8_stone 101 = .ok (.athrow, 1) := by decide +kernel
theorem kX8_polygon_0 : am_dec cX8_polygon 0 [.aload_n 0, .iload_n 1] 2 = true := by decide +kernel
theorem kX8_polygon_5 : am_dec cX8_polygon 5 [.aload_n 0] 6 = true := by decide +kernel
theorem kX8_polygon_9 : am_dec cX8_polygon 9 [.iload_n 1] 10 = true := by decide +kernel
theorem kX8_polygon_13 : am_dec cX8_polygon 13 [.astore_n 3, .iload_n 2] 15 = true := by decide +kernel
theorem kX8_polygon_40 : am_dec cX8_polygon 40 [.aload_n 3] 41 = true := by decide +kernel
theorem kX8_polygon_45 : am_dec cX8_polygon 45 [.aload_n 3] 46 = true := by decide +kernel
theorem kX8_polygon_50 : am_dec cX8_polygon 50 [.aload_n 3] 51 = true := by decide +kernel
theorem kX8_polygon_57 : am_dec cX8_polygon 57 [.iconst 1] 58 = true := by decide +kernel
theorem kX8_polygon_61 : am_dec cX8_polygon 61 [.iconst 0] 62 = true := by decide +kernel
theorem kX8_polygon_66 : am_dec cX8_polygon 66 [.dup] 67 = true := by decide +kernel
theorem eX8_polygon_2 : decode cX8_polygon 2 = .ok (.invokevirtual 133, 3) := by decide +kernel
theorem eX8_polygon_6 : decode cX8_polygon 6 = .ok (.getfield 16, 3) := by decide +kernel
theorem eX8_polygon_10 : decode cX8_polygon 10 = .ok (.invokevirtual 136, 3) := by decide +kernel
theorem eX8_polygon_15 : decode cX8_polygon 15 = .ok (.tableswitch 48 0 2 #[25, 30, 35], 25) := by decide +kernel
theorem eX8_polygon_41 : decode cX8_polygon 41 = .ok (.getfield 140, 3) := by decide +kernel
theorem eX8_polygon_44 : decode cX8_polygon 44 = .ok (.ireturn, 1) := by decide +kernel
theorem eX8_polygon_46 : decode cX8_polygon 46 = .ok (.getfield 145, 3) := by decide +kernel
theorem eX8_polygon_49 : decode cX8_polygon 49 = .ok (.ireturn, 1) := by decide +kernel
theorem eX8_polygon_51 : decode cX8_polygon 51 = .ok (.getfield 148, 3) := by decide +kernel
theorem eX8_polygon_54 : decode cX8_polygon 54 = .ok (.ifCond .eq 7, 3) := by decide +kernel
theorem eX8_polygon_58 : decode cX8_polygon 58 = .ok (.goto 4, 3) := by decide +kernel
theorem eX8_polygon_62 : decode cX8_polygon 62 = .ok (.ireturn, 1) := by decide +kernel
theorem eX8_polygon_63 : decode cX8_polygon 63 = .ok (.new 66, 3) := by decide +kernel
theorem eX8_polygon_67 : decode cX8_polygon 67 = .ok (.ldc 152, 2) := by decide +kernel
theorem eX8_polygon_69 : decode cX8_polygon 69 = .ok (.invokespecial 70, 3) := by decide +kernel
theorem eX8_polygon_72 : decode cX8_polygon 72 = .ok (.athrow, 1) := by decide +kernel
theorem kX8_cornerAt_0 : am_dec cX8_cornerAt 0 [.aload_n 0, .iload_n 1] 2 = true := by decide +kernel
theorem kX8_cornerAt_5 : am_dec cX8_cornerAt 5 [.aload_n 0, .iload_n 1, .iload_n 2] 8 = true := by decide +kernel
theorem kX8_cornerAt_11 : am_dec cX8_cornerAt 11 [.aload_n 0] 12 = true := by decide +kernel
theorem kX8_cornerAt_15 : am_dec cX8_cornerAt 15 [.iload_n 1] 16 = true := by decide +kernel
theorem kX8_cornerAt_19 : am_dec cX8_cornerAt 19 [.iload_n 2] 20 = true := by decide +kernel
theorem eX8_cornerAt_2 : decode cX8_cornerAt 2 = .ok (.invokevirtual 133, 3) := by decide +kernel
theorem eX8_cornerAt_8 : decode cX8_cornerAt 8 = .ok (.invokevirtual 154, 3) := by decide +kernel
theorem eX8_cornerAt_12 : decode cX8_cornerAt 12 = .ok (.getfield 16, 3) := by decide +kernel
theorem eX8_cornerAt_16 : decode cX8_cornerAt 16 = .ok (.invokevirtual 136, 3) := by decide +kernel
theorem eX8_cornerAt_20 : decode cX8_cornerAt 20 = .ok (.invokevirtual 158, 3) := by decide +kernel
theorem eX8_cornerAt_23 : decode cX8_cornerAt 23 = .ok (.ireturn, 1) := by decide +kernel
theorem kX8_reason_0 : am_dec cX8_reason 0 [.aload_n 0, .iload_n 1] 2 = true := by decide +kernel
theorem kX8_reason_5 : am_dec cX8_reason 5 [.aload_n 0, .iload_n 2, .iload_n 3] 8 = true := by decide +kernel
theorem kX8_reason_11 : am_dec cX8_reason 11 [.aload_n 0] 12 = true := by decide +kernel
theorem kX8_reason_15 : am_dec cX8_reason 15 [.iload_n 1, .iload_n 2, .iload_n 3] 18 = true := by decide +kernel
theorem eX8_reason_2 : decode cX8_reason 2 = .ok (.invokevirtual 133, 3) := by decide +kernel
theorem eX8_reason_8 : decode cX8_reason 8 = .ok (.invokevirtual 161, 3) := by decide +kernel
theorem eX8_reason_12 : decode cX8_reason 12 = .ok (.getfield 28, 3) := by decide +kernel
theorem eX8_reason_18 : decode cX8_reason 18 = .ok (.invokevirtual 164, 3) := by decide +kernel
theorem eX8_reason_21 : decode cX8_reason 21 = .ok (.ireturn, 1) := by decide +kernel
theorem kX8_area_0 : am_dec cX8_area 0 [.aload_n 0, .iload_n 1] 2 = true := by decide +kernel
theorem kX8_area_5 : am_dec cX8_area 5 [.aload_n 0, .iload_n 1] 7 = true := by decide +kernel
theorem kX8_area_10 : am_dec cX8_area 10 [.aload_n 0] 11 = true := by decide +kernel
theorem kX8_area_14 : am_dec cX8_area 14 [.iload_n 1] 15 = true := by decide +kernel
theorem eX8_area_2 : decode cX8_area 2 = .ok (.invokevirtual 133, 3) := by decide +kernel
theorem eX8_area_7 : decode cX8_area 7 = .ok (.invokevirtual 168, 3) := by decide +kernel
theorem eX8_area_11 : decode cX8_area 11 = .ok (.getfield 16, 3) := by decide +kernel
theorem eX8_area_15 : decode cX8_area 15 = .ok (.invokevirtual 136, 3) := by decide +kernel
theorem eX8_area_18 : decode cX8_area 18 = .ok (.invokevirtual 175, 3) := by decide +kernel
theorem eX8_area_21 : decode cX8_area 21 = .ok (.ireturn, 1) := by decide +kernel
theorem kX8_points_0 : am_dec cX8_points 0 [.iload_n 1] 1 = true := by decide +kernel
theorem kX8_points_10 : am_dec cX8_points 10 [.dup] 11 = true := by decide +kernel
theorem kX8_points_17 : am_dec cX8_points 17 [.aload_n 0] 18 = true := by decide +kernel
theorem kX8_points_21 : am_dec cX8_points 21 [.iload_n 1] 22 = true := by decide +kernel
theorem eX8_points_1 : decode cX8_points 1 = .ok (.invokestatic 199, 3) := by decide +kernel
theorem eX8_points_4 : decode cX8_points 4 = .ok (.ifCond .ne 13, 3) := by decide +kernel
theorem eX8_points_7 : decode cX8_points 7 = .ok (.new 66, 3) := by decide +kernel
theorem eX8_points_11 : decode cX8_points 11 = .ok (.ldc 202, 2) := by decide +kernel
theorem eX8_points_13 : decode cX8_points 13 = .ok (.invokespecial 70, 3) := by decide +kernel
theorem eX8_points_16 : decode cX8_points 16 = .ok (.athrow, 1) := by decide +kernel
theorem eX8_points_18 : decode cX8_points 18 = .ok (.getfield 44, 3) := by decide +kernel
theorem eX8_points_22 : decode cX8_points 22 = .ok (.invokevirtual 204, 3) := by decide +kernel
theorem eX8_points_25 : decode cX8_points 25 = .ok (.ireturn, 1) := by decide +kernel
theorem kX8_leader_0 : am_dec cX8_leader 0 [.iconst 0, .istore_n 1, .aload_n 0] 3 = true := by decide +kernel
theorem kX8_leader_6 : am_dec cX8_leader 6 [.iconst 0] 7 = true := by decide +kernel
theorem kX8_leader_10 : am_dec cX8_leader 10 [.istore_n 2, .iconst 1, .istore_n 3] 13 = true := by decide +kernel
theorem kX8_leader_13 : am_dec cX8_leader 13 [.iload_n 3, .iconst 3] 15 = true := by decide +kernel
theorem kX8_leader_18 : am_dec cX8_leader 18 [.aload_n 0] 19 = true := by decide +kernel
theorem kX8_leader_22 : am_dec cX8_leader 22 [.iload_n 3] 23 = true := by decide +kernel
theorem kX8_leader_26 : am_dec cX8_leader 26 [.istore 4, .iload 4, .iload_n 2] 31 = true := by decide +kernel
theorem kX8_leader_34 : am_dec cX8_leader 34 [.iload_n 3, .istore_n 1, .iload 4, .istore_n 2] 39 = true := by decide +kernel
theorem kX8_leader_39 : am_dec cX8_leader 39 [.iinc 3 1] 42 = true := by decide +kernel
theorem kX8_leader_45 : am_dec cX8_leader 45 [.iload_n 1] 46 = true := by decide +kernel
theorem eX8_leader_3 : decode cX8_leader 3 = .ok (.getfield 44, 3) := by decide +kernel
theorem eX8_leader_7 : decode cX8_leader 7 = .ok (.invokevirtual 204, 3) := by decide +kernel
theorem eX8_leader_15 : decode cX8_leader 15 = .ok (.if_icmp .gt 30, 3) := by decide +kernel
theorem eX8_leader_19 : decode cX8_leader 19 = .ok (.getfield 44, 3) := by decide +kernel
theorem eX8_leader_23 : decode cX8_leader 23 = .ok (.invokevirtual 204, 3) := by decide +kernel
theorem eX8_leader_31 : decode cX8_leader 31 = .ok (.if_icmp .le 8, 3) := by decide +kernel
theorem eX8_leader_42 : decode cX8_leader 42 = .ok (.goto (-29), 3) := by decide +kernel
theorem eX8_leader_46 : decode cX8_leader 46 = .ok (.ireturn, 1) := by decide +kernel
theorem kX8_begin_0 : am_dec cX8_begin 0 [.iload_n 1] 1 = true := by decide +kernel
theorem kX8_begin_10 : am_dec cX8_begin 10 [.dup] 11 = true := by decide +kernel
theorem kX8_begin_17 : am_dec cX8_begin 17 [.aload_n 0, .iload_n 2, .iload_n 3] 20 = true := by decide +kernel
theorem kX8_begin_23 : am_dec cX8_begin 23 [.aload_n 0] 24 = true := by decide +kernel
theorem kX8_begin_30 : am_dec cX8_begin 30 [.bipush 6] 32 = true := by decide +kernel
theorem kX8_begin_38 : am_dec cX8_begin 38 [.dup] 39 = true := by decide +kernel
theorem kX8_begin_45 : am_dec cX8_begin 45 [.aload_n 0] 46 = true := by decide +kernel
theorem kX8_begin_49 : am_dec cX8_begin 49 [.aload_n 0] 50 = true := by decide +kernel
theorem kX8_begin_56 : am_dec cX8_begin 56 [.aload_n 0] 57 = true := by decide +kernel
theorem kX8_begin_60 : am_dec cX8_begin 60 [.iload_n 2, .iload_n 3] 62 = true := by decide +kernel
theorem kX8_begin_68 : am_dec cX8_begin 68 [.bipush (-3)] 70 = true := by decide +kernel
theorem kX8_begin_71 : am_dec cX8_begin 71 [.aload_n 0] 72 = true := by decide +kernel
theorem kX8_begin_75 : am_dec cX8_begin 75 [.iload_n 1, .iload_n 2, .iload_n 3] 78 = true := by decide +kernel
theorem eX8_begin_1 : decode cX8_begin 1 = .ok (.invokestatic 199, 3) := by decide +kernel
theorem eX8_begin_4 : decode cX8_begin 4 = .ok (.ifCond .ne 13, 3) := by decide +kernel
theorem eX8_begin_7 : decode cX8_begin 7 = .ok (.new 66, 3) := by decide +kernel
theorem eX8_begin_11 : decode cX8_begin 11 = .ok (.ldc 202, 2) := by decide +kernel
theorem eX8_begin_13 : decode cX8_begin 13 = .ok (.invokespecial 70, 3) := by decide +kernel
theorem eX8_begin_16 : decode cX8_begin 16 = .ok (.athrow, 1) := by decide +kernel
theorem eX8_begin_20 : decode cX8_begin 20 = .ok (.invokevirtual 161, 3) := by decide +kernel
theorem eX8_begin_24 : decode cX8_begin 24 = .ok (.getfield 16, 3) := by decide +kernel
theorem eX8_begin_27 : decode cX8_begin 27 = .ok (.getfield 92, 3) := by decide +kernel
theorem eX8_begin_32 : decode cX8_begin 32 = .ok (.if_icmp .lt 13, 3) := by decide +kernel
theorem eX8_begin_35 : decode cX8_begin 35 = .ok (.new 207, 3) := by decide +kernel
theorem eX8_begin_39 : decode cX8_begin 39 = .ok (.ldc 209, 2) := by decide +kernel
theorem eX8_begin_41 : decode cX8_begin 41 = .ok (.invokespecial 211, 3) := by decide +kernel
theorem eX8_begin_44 : decode cX8_begin 44 = .ok (.athrow, 1) := by decide +kernel
theorem eX8_begin_46 : decode cX8_begin 46 = .ok (.getfield 51, 3) := by decide +kernel
theorem eX8_begin_50 : decode cX8_begin 50 = .ok (.getfield 16, 3) := by decide +kernel
theorem eX8_begin_53 : decode cX8_begin 53 = .ok (.invokevirtual 83, 3) := by decide +kernel
theorem eX8_begin_57 : decode cX8_begin 57 = .ok (.getfield 16, 3) := by decide +kernel
theorem eX8_begin_62 : decode cX8_begin 62 = .ok (.invokevirtual 212, 3) := by decide +kernel
theorem eX8_begin_65 : decode cX8_begin 65 = .ok (.ifCond .eq 6, 3) := by decide +kernel
theorem eX8_begin_70 : decode cX8_begin 70 = .ok (.ireturn, 1) := by decide +kernel
theorem eX8_begin_72 : decode cX8_begin 72 = .ok (.getfield 16, 3) := by decide +kernel
theorem eX8_begin_78 : decode cX8_begin 78 = .ok (.invokevirtual 216, 3) := by decide +kernel
theorem eX8_begin_81 : decode cX8_begin 81 = .ok (.ireturn, 1) := by decide +kernel
theorem kX8_corner_0 : am_dec cX8_corner 0 [.aload_n 0, .iload_n 1] 2 = true := by decide +kernel
theorem kX8_corner_5 : am_dec cX8_corner 5 [.aload_n 0, .iload_n 2, .iload_n 3] 8 = true := by decide +kernel
theorem kX8_corner_11 : am_dec cX8_corner 11 [.aload_n 0] 12 = true := by decide +kernel
theorem kX8_corner_15 : am_dec cX8_corner 15 [.aload_n 0] 16 = true := by decide +kernel
theorem kX8_corner_22 : am_dec cX8_corner 22 [.aload_n 0] 23 = true := by decide +kernel
theorem kX8_corner_26 : am_dec cX8_corner 26 [.iload_n 1, .iload_n 2, .iload_n 3] 29 = true := by decide +kernel
theorem kX8_corner_32 : am_dec cX8_corner 32 [.istore 4, .iload 4] 36 = true := by decide +kernel
theorem kX8_corner_39 : am_dec cX8_corner 39 [.iload 4, .ineg] 42 = true := by decide +kernel
theorem kX8_corner_43 : am_dec cX8_corner 43 [.aload_n 0] 44 = true := by decide +kernel
theorem kX8_corner_47 : am_dec cX8_corner 47 [.iload_n 1] 48 = true := by decide +kernel
theorem kX8_corner_51 : am_dec cX8_corner 51 [.astore 5, .aload 5, .aload 5] 57 = true := by decide +kernel
theorem kX8_corner_60 : am_dec cX8_corner 60 [.iload_n 2, .iload_n 3] 62 = true := by decide +kernel
theorem kX8_corner_65 : am_dec cX8_corner 65 [.aload 5] 67 = true := by decide +kernel
theorem eX8_corner_2 : decode cX8_corner 2 = .ok (.invokevirtual 133, 3) := by decide +kernel
theorem eX8_corner_8 : decode cX8_corner 8 = .ok (.invokevirtual 161, 3) := by decide +kernel
theorem eX8_corner_12 : decode cX8_corner 12 = .ok (.getfield 51, 3) := by decide +kernel
theorem eX8_corner_16 : decode cX8_corner 16 = .ok (.getfield 16, 3) := by decide +kernel
theorem eX8_corner_19 : decode cX8_corner 19 = .ok (.invokevirtual 83, 3) := by decide +kernel
theorem eX8_corner_23 : decode cX8_corner 23 = .ok (.getfield 28, 3) := by decide +kernel
theorem eX8_corner_29 : decode cX8_corner 29 = .ok (.invokevirtual 164, 3) := by decide +kernel
theorem eX8_corner_36 : decode cX8_corner 36 = .ok (.ifCond .eq 7, 3) := by decide +kernel
theorem eX8_corner_42 : decode cX8_corner 42 = .ok (.ireturn, 1) := by decide +kernel
theorem eX8_corner_44 : decode cX8_corner 44 = .ok (.getfield 16, 3) := by decide +kernel
theorem eX8_corner_48 : decode cX8_corner 48 = .ok (.invokevirtual 136, 3) := by decide +kernel
theorem eX8_corner_57 : decode cX8_corner 57 = .ok (.getfield 145, 3) := by decide +kernel
theorem eX8_corner_62 : decode cX8_corner 62 = .ok (.invokevirtual 219, 3) := by decide +kernel
theorem eX8_corner_67 : decode cX8_corner 67 = .ok (.getfield 145, 3) := by decide +kernel
theorem eX8_corner_70 : decode cX8_corner 70 = .ok (.ireturn, 1) := by decide +kernel
theorem kX8_close_0 : am_dec cX8_close 0 [.aload_n 0, .iload_n 1] 2 = true := by decide +kernel
theorem kX8_close_5 : am_dec cX8_close 5 [.aload_n 0] 6 = true := by decide +kernel
theorem kX8_close_9 : am_dec cX8_close 9 [.aload_n 0] 10 = true := by decide +kernel
theorem kX8_close_16 : am_dec cX8_close 16 [.aload_n 0] 17 = true := by decide +kernel
theorem kX8_close_20 : am_dec cX8_close 20 [.iload_n 1] 21 = true := by decide +kernel
theorem kX8_close_24 : am_dec cX8_close 24 [.istore_n 2, .iload_n 2] 26 = true := by decide +kernel
theorem kX8_close_29 : am_dec cX8_close 29 [.iload_n 2, .ineg] 31 = true := by decide +kernel
theorem kX8_close_32 : am_dec cX8_close 32 [.aload_n 0] 33 = true := by decide +kernel
theorem kX8_close_36 : am_dec cX8_close 36 [.iload_n 1] 37 = true := by decide +kernel
theorem kX8_close_40 : am_dec cX8_close 40 [.iconst 1] 41 = true := by decide +kernel
theorem kX8_close_44 : am_dec cX8_close 44 [.aload_n 0] 45 = true := by decide +kernel
theorem kX8_close_51 : am_dec cX8_close 51 [.aload_n 0] 52 = true := by decide +kernel
theorem kX8_close_55 : am_dec cX8_close 55 [.iload_n 1] 56 = true := by decide +kernel
theorem eX8_close_2 : decode cX8_close 2 = .ok (.invokevirtual 133, 3) := by decide +kernel
theorem eX8_close_6 : decode cX8_close 6 = .ok (.getfield 51, 3) := by decide +kernel
theorem eX8_close_10 : decode cX8_close 10 = .ok (.getfield 16, 3) := by decide +kernel
theorem eX8_close_13 : decode cX8_close 13 = .ok (.invokevirtual 83, 3) := by decide +kernel
theorem eX8_close_17 : decode cX8_close 17 = .ok (.getfield 28, 3) := by decide +kernel
theorem eX8_close_21 : decode cX8_close 21 = .ok (.invokevirtual 223, 3) := by decide +kernel
theorem eX8_close_26 : decode cX8_close 26 = .ok (.ifCond .eq 6, 3) := by decide +kernel
theorem eX8_close_31 : decode cX8_close 31 = .ok (.ireturn, 1) := by decide +kernel
theorem eX8_close_33 : decode cX8_close 33 = .ok (.getfield 16, 3) := by decide +kernel
theorem eX8_close_37 : decode cX8_close 37 = .ok (.invokevirtual 136, 3) := by decide +kernel
theorem eX8_close_41 : decode cX8_close 41 = .ok (.putfield 148, 3) := by decide +kernel
theorem eX8_close_45 : decode cX8_close 45 = .ok (.getfield 16, 3) := by decide +kernel
theorem eX8_close_48 : decode cX8_close 48 = .ok (.invokevirtual 89, 3) := by decide +kernel
theorem eX8_close_52 : decode cX8_close 52 = .ok (.getfield 16, 3) := by decide +kernel
theorem eX8_close_56 : decode cX8_close 56 = .ok (.invokevirtual 226, 3) := by decide +kernel
theorem eX8_close_59 : decode cX8_close 59 = .ok (.ireturn, 1) := by decide +kernel
theorem kX8_bend_0 : am_dec cX8_bend 0 [.aload_n 0, .iload_n 1] 2 = true := by decide +kernel
theorem kX8_bend_5 : am_dec cX8_bend 5 [.aload_n 0, .iload_n 1, .iload_n 2] 8 = true := by decide +kernel
theorem kX8_bend_11 : am_dec cX8_bend 11 [.aload_n 0, .iload_n 3, .iload 4] 15 = true := by decide +kernel
theorem kX8_bend_18 : am_dec cX8_bend 18 [.aload_n 0] 19 = true := by decide +kernel
theorem kX8_bend_22 : am_dec cX8_bend 22 [.aload_n 0] 23 = true := by decide +kernel
theorem kX8_bend_29 : am_dec cX8_bend 29 [.aload_n 0] 30 = true := by decide +kernel
theorem kX8_bend_33 : am_dec cX8_bend 33 [.iload_n 1, .iload_n 2, .iload_n 3, .iload 4] 38 = true := by decide +kernel
theorem kX8_bend_41 : am_dec cX8_bend 41 [.istore 5, .iload 5] 45 = true := by decide +kernel
theorem kX8_bend_48 : am_dec cX8_bend 48 [.iload 5, .ineg] 51 = true := by decide +kernel
theorem kX8_bend_52 : am_dec cX8_bend 52 [.aload_n 0] 53 = true := by decide +kernel
theorem kX8_bend_56 : am_dec cX8_bend 56 [.iload_n 1] 57 = true := by decide +kernel
theorem kX8_bend_60 : am_dec cX8_bend 60 [.astore 6, .aload 6, .iload_n 2, .iconst 1, .iadd, .iload_n 3, .iload 4] 70 = true := by decide +kernel
theorem kX8_bend_73 : am_dec cX8_bend 73 [.aload_n 0] 74 = true := by decide +kernel
theorem kX8_bend_80 : am_dec cX8_bend 80 [.aload 6] 82 = true := by decide +kernel
theorem eX8_bend_2 : decode cX8_bend 2 = .ok (.invokevirtual 133, 3) := by decide +kernel
theorem eX8_bend_8 : decode cX8_bend 8 = .ok (.invokevirtual 154, 3) := by decide +kernel
theorem eX8_bend_15 : decode cX8_bend 15 = .ok (.invokevirtual 161, 3) := by decide +kernel
theorem eX8_bend_19 : decode cX8_bend 19 = .ok (.getfield 51, 3) := by decide +kernel
theorem eX8_bend_23 : decode cX8_bend 23 = .ok (.getfield 16, 3) := by decide +kernel
theorem eX8_bend_26 : decode cX8_bend 26 = .ok (.invokevirtual 83, 3) := by decide +kernel
theorem eX8_bend_30 : decode cX8_bend 30 = .ok (.getfield 28, 3) := by decide +kernel
theorem eX8_bend_38 : decode cX8_bend 38 = .ok (.invokevirtual 229, 3) := by decide +kernel
theorem eX8_bend_45 : decode cX8_bend 45 = .ok (.ifCond .eq 7, 3) := by decide +kernel
theorem eX8_bend_51 : decode cX8_bend 51 = .ok (.ireturn, 1) := by decide +kernel
theorem eX8_bend_53 : decode cX8_bend 53 = .ok (.getfield 16, 3) := by decide +kernel
theorem eX8_bend_57 : decode cX8_bend 57 = .ok (.invokevirtual 136, 3) := by decide +kernel
theorem eX8_bend_70 : decode cX8_bend 70 = .ok (.invokevirtual 219, 3) := by decide +kernel
theorem eX8_bend_74 : decode cX8_bend 74 = .ok (.getfield 16, 3) := by decide +kernel
theorem eX8_bend_77 : decode cX8_bend 77 = .ok (.invokevirtual 89, 3) := by decide +kernel
theorem eX8_bend_82 : decode cX8_bend 82 = .ok (.invokevirtual 175, 3) := by decide +kernel
theorem eX8_bend_85 : decode cX8_bend 85 = .ok (.ireturn, 1) := by decide +kernel
theorem kX8_takeOut_0 : am_dec cX8_takeOut 0 [.aload_n 0, .iload_n 1] 2 = true := by decide +kernel
theorem kX8_takeOut_5 : am_dec cX8_takeOut 5 [.aload_n 0, .iload_n 1, .iload_n 2] 8 = true := by decide +kernel
theorem kX8_takeOut_11 : am_dec cX8_takeOut 11 [.aload_n 0] 12 = true := by decide +kernel
theorem kX8_takeOut_15 : am_dec cX8_takeOut 15 [.aload_n 0] 16 = true := by decide +kernel
theorem kX8_takeOut_22 : am_dec cX8_takeOut 22 [.aload_n 0] 23 = true := by decide +kernel
theorem kX8_takeOut_26 : am_dec cX8_takeOut 26 [.iload_n 1, .iload_n 2] 28 = true := by decide +kernel
theorem kX8_takeOut_31 : am_dec cX8_takeOut 31 [.istore_n 3, .iload_n 3] 33 = true := by decide +kernel
theorem kX8_takeOut_36 : am_dec cX8_takeOut 36 [.iload_n 3, .ineg] 38 = true := by decide +kernel
theorem kX8_takeOut_39 : am_dec cX8_takeOut 39 [.aload_n 0] 40 = true := by decide +kernel
theorem kX8_takeOut_43 : am_dec cX8_takeOut 43 [.iload_n 1] 44 = true := by decide +kernel
theorem kX8_takeOut_47 : am_dec cX8_takeOut 47 [.astore 4, .aload 4, .iload_n 2] 52 = true := by decide +kernel
theorem kX8_takeOut_55 : am_dec cX8_takeOut 55 [.aload_n 0] 56 = true := by decide +kernel
theorem kX8_takeOut_62 : am_dec cX8_takeOut 62 [.aload 4] 64 = true := by decide +kernel
theorem eX8_takeOut_2 : decode cX8_takeOut 2 = .ok (.invokevirtual 133, 3) := by decide +kernel
theorem eX8_takeOut_8 : decode cX8_takeOut 8 = .ok (.invokevirtual 154, 3) := by decide +kernel
theorem eX8_takeOut_12 : decode cX8_takeOut 12 = .ok (.getfield 51, 3) := by decide +kernel
theorem eX8_takeOut_16 : decode cX8_takeOut 16 = .ok (.getfield 16, 3) := by decide +kernel
theorem eX8_takeOut_19 : decode cX8_takeOut 19 = .ok (.invokevirtual 83, 3) := by decide +kernel
theorem eX8_takeOut_23 : decode cX8_takeOut 23 = .ok (.getfield 28, 3) := by decide +kernel
theorem eX8_takeOut_28 : decode cX8_takeOut 28 = .ok (.invokevirtual 233, 3) := by decide +kernel
theorem eX8_takeOut_33 : decode cX8_takeOut 33 = .ok (.ifCond .eq 6, 3) := by decide +kernel
theorem eX8_takeOut_38 : decode cX8_takeOut 38 = .ok (.ireturn, 1) := by decide +kernel
theorem eX8_takeOut_40 : decode cX8_takeOut 40 = .ok (.getfield 16, 3) := by decide +kernel
theorem eX8_takeOut_44 : decode cX8_takeOut 44 = .ok (.invokevirtual 136, 3) := by decide +kernel
theorem eX8_takeOut_52 : decode cX8_takeOut 52 = .ok (.invokevirtual 236, 3) := by decide +kernel
theorem eX8_takeOut_56 : decode cX8_takeOut 56 = .ok (.getfield 16, 3) := by decide +kernel
theorem eX8_takeOut_59 : decode cX8_takeOut 59 = .ok (.invokevirtual 89, 3) := by decide +kernel
theorem eX8_takeOut_64 : decode cX8_takeOut 64 = .ok (.invokevirtual 175, 3) := by decide +kernel
theorem eX8_takeOut_67 : decode cX8_takeOut 67 = .ok (.ireturn, 1) := by decide +kernel
theorem kX8_remove_0 : am_dec cX8_remove 0 [.aload_n 0, .iload_n 1] 2 = true := by decide +kernel
theorem kX8_remove_5 : am_dec cX8_remove 5 [.aload_n 0] 6 = true := by decide +kernel
theorem kX8_remove_9 : am_dec cX8_remove 9 [.aload_n 0] 10 = true := by decide +kernel
theorem kX8_remove_16 : am_dec cX8_remove 16 [.aload_n 0] 17 = true := by decide +kernel
theorem kX8_remove_20 : am_dec cX8_remove 20 [.iload_n 1] 21 = true := by decide +kernel
theorem kX8_remove_24 : am_dec cX8_remove 24 [.aload_n 0] 25 = true := by decide +kernel
theorem kX8_remove_31 : am_dec cX8_remove 31 [.aload_n 0] 32 = true := by decide +kernel
theorem eX8_remove_2 : decode cX8_remove 2 = .ok (.invokevirtual 133, 3) := by decide +kernel
theorem eX8_remove_6 : decode cX8_remove 6 = .ok (.getfield 51, 3) := by decide +kernel
theorem eX8_remove_10 : decode cX8_remove 10 = .ok (.getfield 16, 3) := by decide +kernel
theorem eX8_remove_13 : decode cX8_remove 13 = .ok (.invokevirtual 83, 3) := by decide +kernel
theorem eX8_remove_17 : decode cX8_remove 17 = .ok (.getfield 16, 3) := by decide +kernel
theorem eX8_remove_21 : decode cX8_remove 21 = .ok (.invokevirtual 239, 3) := by decide +kernel
theorem eX8_remove_25 : decode cX8_remove 25 = .ok (.getfield 16, 3) := by decide +kernel
theorem eX8_remove_28 : decode cX8_remove 28 = .ok (.invokevirtual 89, 3) := by decide +kernel
theorem eX8_remove_32 : decode cX8_remove 32 = .ok (.getfield 16, 3) := by decide +kernel
theorem eX8_remove_35 : decode cX8_remove 35 = .ok (.invokevirtual 108, 3) := by decide +kernel
theorem eX8_remove_38 : decode cX8_remove 38 = .ok (.ireturn, 1) := by decide +kernel
theorem kX8_undo_0 : am_dec cX8_undo 0 [.aload_n 0] 1 = true := by decide +kernel
theorem kX8_undo_4 : am_dec cX8_undo 4 [.aload_n 0] 5 = true := by decide +kernel
theorem eX8_undo_1 : decode cX8_undo 1 = .ok (.getfield 51, 3) := by decide +kernel
theorem eX8_undo_5 : decode cX8_undo 5 = .ok (.getfield 16, 3) := by decide +kernel
theorem eX8_undo_8 : decode cX8_undo 8 = .ok (.invokevirtual 242, 3) := by decide +kernel
theorem eX8_undo_11 : decode cX8_undo 11 = .ok (.ireturn, 1) := by decide +kernel
theorem kX8_checksum_0 : am_dec cX8_checksum 0 [.lconst 0, .lstore_n 1, .iconst 0, .istore_n 3] 4 = true := by decide +kernel
theorem kX8_checksum_4 : am_dec cX8_checksum 4 [.iload_n 3, .aload_n 0] 6 = true := by decide +kernel
theorem kX8_checksum_15 : am_dec cX8_checksum 15 [.aload_n 0] 16 = true := by decide +kernel
theorem kX8_checksum_19 : am_dec cX8_checksum 19 [.iload_n 3] 20 = true := by decide +kernel
theorem kX8_checksum_23 : am_dec cX8_checksum 23 [.astore 4] 25 = true := by decide +kernel
theorem kX8_checksum_28 : am_dec cX8_checksum 28 [.lload_n 1, .lmul, .aload 4] 32 = true := by decide +kernel
theorem kX8_checksum_36 : am_dec cX8_checksum 36 [.ladd, .lstore_n 1] 38 = true := by decide +kernel
theorem kX8_checksum_41 : am_dec cX8_checksum 41 [.lload_n 1, .lmul, .aload 4] 45 = true := by decide +kernel
theorem kX8_checksum_51 : am_dec cX8_checksum 51 [.iconst 1] 52 = true := by decide +kernel
theorem kX8_checksum_55 : am_dec cX8_checksum 55 [.iconst 0] 56 = true := by decide +kernel
theorem kX8_checksum_57 : am_dec cX8_checksum 57 [.ladd, .lstore_n 1, .iconst 0, .istore 5] 62 = true := by decide +kernel
theorem kX8_checksum_62 : am_dec cX8_checksum 62 [.iload 5, .aload 4] 66 = true := by decide +kernel
theorem kX8_checksum_75 : am_dec cX8_checksum 75 [.lload_n 1, .lmul, .aload 4, .iload 5] 81 = true := by decide +kernel
theorem kX8_checksum_85 : am_dec cX8_checksum 85 [.ladd, .lstore_n 1, .iinc 5 1] 90 = true := by decide +kernel
theorem kX8_checksum_93 : am_dec cX8_checksum 93 [.iinc 3 1] 96 = true := by decide +kernel
theorem kX8_checksum_99 : am_dec cX8_checksum 99 [.iconst 0, .istore_n 3] 101 = true := by decide +kernel
theorem kX8_checksum_101 : am_dec cX8_checksum 101 [.iload_n 3, .aload_n 0] 103 = true := by decide +kernel
theorem kX8_checksum_115 : am_dec cX8_checksum 115 [.lload_n 1, .lmul, .aload_n 0] 118 = true := by decide +kernel
theorem kX8_checksum_121 : am_dec cX8_checksum 121 [.iload_n 3] 122 = true := by decide +kernel
theorem kX8_checksum_126 : am_dec cX8_checksum 126 [.ladd, .lstore_n 1, .iinc 3 1] 131 = true := by decide +kernel
theorem kX8_checksum_134 : am_dec cX8_checksum 134 [.iconst 0, .istore_n 3] 136 = true := by decide +kernel
theorem kX8_checksum_136 : am_dec cX8_checksum 136 [.iload_n 3, .iconst 3] 138 = true := by decide +kernel
theorem kX8_checksum_144 : am_dec cX8_checksum 144 [.lload_n 1, .lmul, .aload_n 0] 147 = true := by decide +kernel
theorem kX8_checksum_150 : am_dec cX8_checksum 150 [.iload_n 3] 151 = true := by decide +kernel
theorem kX8_checksum_155 : am_dec cX8_checksum 155 [.ladd, .lstore_n 1, .iinc 3 1] 160 = true := by decide +kernel
theorem kX8_checksum_163 : am_dec cX8_checksum 163 [.lload_n 1] 164 = true := by decide +kernel
theorem eX8_checksum_6 : decode cX8_checksum 6 = .ok (.getfield 16, 3) := by decide +kernel
theorem eX8_checksum_9 : decode cX8_checksum 9 = .ok (.getfield 92, 3) := by decide +kernel
theorem eX8_checksum_12 : decode cX8_checksum 12 = .ok (.if_icmp .ge 87, 3) := by decide +kernel
theorem eX8_checksum_16 : decode cX8_checksum 16 = .ok (.getfield 16, 3) := by decide +kernel
theorem eX8_checksum_20 : decode cX8_checksum 20 = .ok (.invokevirtual 136, 3) := by decide +kernel
theorem eX8_checksum_25 : decode cX8_checksum 25 = .ok (.ldc2_w 246, 3) := by decide +kernel
theorem eX8_checksum_32 : decode cX8_checksum 32 = .ok (.getfield 140, 3) := by decide +kernel
theorem eX8_checksum_35 : decode cX8_checksum 35 = .ok (.i2l, 1) := by decide +kernel
theorem eX8_checksum_38 : decode cX8_checksum 38 = .ok (.ldc2_w 246, 3) := by decide +kernel
theorem eX8_checksum_45 : decode cX8_checksum 45 = .ok (.getfield 148, 3) := by decide +kernel
theorem eX8_checksum_48 : decode cX8_checksum 48 = .ok (.ifCond .eq 7, 3) := by decide +kernel
theorem eX8_checksum_52 : decode cX8_checksum 52 = .ok (.goto 4, 3) := by decide +kernel
theorem eX8_checksum_56 : decode cX8_checksum 56 = .ok (.i2l, 1) := by decide +kernel
theorem eX8_checksum_66 : decode cX8_checksum 66 = .ok (.getfield 145, 3) := by decide +kernel
theorem eX8_checksum_69 : decode cX8_checksum 69 = .ok (.if_icmp .ge 24, 3) := by decide +kernel
theorem eX8_checksum_72 : decode cX8_checksum 72 = .ok (.ldc2_w 246, 3) := by decide +kernel
theorem eX8_checksum_81 : decode cX8_checksum 81 = .ok (.invokevirtual 158, 3) := by decide +kernel
theorem eX8_checksum_84 : decode cX8_checksum 84 = .ok (.i2l, 1) := by decide +kernel
theorem eX8_checksum_90 : decode cX8_checksum 90 = .ok (.goto (-28), 3) := by decide +kernel
theorem eX8_checksum_96 : decode cX8_checksum 96 = .ok (.goto (-92), 3) := by decide +kernel
theorem eX8_checksum_103 : decode cX8_checksum 103 = .ok (.getfield 16, 3) := by decide +kernel
theorem eX8_checksum_106 : decode cX8_checksum 106 = .ok (.getfield 101, 3) := by decide +kernel
theorem eX8_checksum_109 : decode cX8_checksum 109 = .ok (.if_icmp .ge 25, 3) := by decide +kernel
theorem eX8_checksum_112 : decode cX8_checksum 112 = .ok (.ldc2_w 246, 3) := by decide +kernel
theorem eX8_checksum_118 : decode cX8_checksum 118 = .ok (.getfield 16, 3) := by decide +kernel
theorem eX8_checksum_122 : decode cX8_checksum 122 = .ok (.invokevirtual 128, 3) := by decide +kernel
theorem eX8_checksum_125 : decode cX8_checksum 125 = .ok (.i2l, 1) := by decide +kernel
theorem eX8_checksum_131 : decode cX8_checksum 131 = .ok (.goto (-30), 3) := by decide +kernel
theorem eX8_checksum_138 : decode cX8_checksum 138 = .ok (.if_icmp .gt 25, 3) := by decide +kernel
theorem eX8_checksum_141 : decode cX8_checksum 141 = .ok (.ldc2_w 246, 3) := by decide +kernel
theorem eX8_checksum_147 : decode cX8_checksum 147 = .ok (.getfield 44, 3) := by decide +kernel
theorem eX8_checksum_151 : decode cX8_checksum 151 = .ok (.invokevirtual 204, 3) := by decide +kernel
theorem eX8_checksum_154 : decode cX8_checksum 154 = .ok (.i2l, 1) := by decide +kernel
theorem eX8_checksum_160 : decode cX8_checksum 160 = .ok (.goto (-24), 3) := by decide +kernel
theorem eX8_checksum_164 : decode cX8_checksum 164 = .ok (.lreturn, 1) := by decide +kernel
theorem kX8_putWord_0 : am_dec cX8_putWord 0 [.bipush 24, .istore_n 2] 3 = true := by decide +kernel
theorem kX8_putWord_3 : am_dec cX8_putWord 3 [.iload_n 2] 4 = true := by decide +kernel
theorem kX8_putWord_7 : am_dec cX8_putWord 7 [.aload_n 0] 8 = true := by decide +kernel
theorem kX8_putWord_11 : am_dec cX8_putWord 11 [.aload_n 0] 12 = true := by decide +kernel
theorem kX8_putWord_19 : am_dec cX8_putWord 19 [.aload_n 0] 20 = true := by decide +kernel
theorem kX8_putWord_23 : am_dec cX8_putWord 23 [.aload_n 0] 24 = true := by decide +kernel
theorem kX8_putWord_27 : am_dec cX8_putWord 27 [.iload_n 1, .iload_n 2] 29 = true := by decide +kernel
theorem kX8_putWord_32 : am_dec cX8_putWord 32 [.aload_n 0, .dup] 34 = true := by decide +kernel
theorem kX8_putWord_37 : am_dec cX8_putWord 37 [.iconst 1, .iadd] 39 = true := by decide +kernel
theorem kX8_putWord_42 : am_dec cX8_putWord 42 [.iinc 2 (-8)] 45 = true := by decide +kernel
theorem eX8_putWord_4 : decode cX8_putWord 4 = .ok (.ifCond .lt 44, 3) := by decide +kernel
theorem eX8_putWord_8 : decode cX8_putWord 8 = .ok (.getfield 55, 3) := by decide +kernel
theorem eX8_putWord_12 : decode cX8_putWord 12 = .ok (.getfield 9, 3) := by decide +kernel
theorem eX8_putWord_15 : decode cX8_putWord 15 = .ok (.arraylength, 1) := by decide +kernel
theorem eX8_putWord_16 : decode cX8_putWord 16 = .ok (.if_icmp .ge 26, 3) := by decide +kernel
theorem eX8_putWord_20 : decode cX8_putWord 20 = .ok (.getfield 9, 3) := by decide +kernel
theorem eX8_putWord_24 : decode cX8_putWord 24 = .ok (.getfield 55, 3) := by decide +kernel
theorem eX8_putWord_29 : decode cX8_putWord 29 = .ok (.ishr, 1) := by decide +kernel
theorem eX8_putWord_30 : decode cX8_putWord 30 = .ok (.i2b, 1) := by decide +kernel
theorem eX8_putWord_31 : decode cX8_putWord 31 = .ok (.bastore, 1) := by decide +kernel
theorem eX8_putWord_34 : decode cX8_putWord 34 = .ok (.getfield 55, 3) := by decide +kernel
theorem eX8_putWord_39 : decode cX8_putWord 39 = .ok (.putfield 55, 3) := by decide +kernel
theorem eX8_putWord_45 : decode cX8_putWord 45 = .ok (.goto (-42), 3) := by decide +kernel
theorem eX8_putWord_48 : decode cX8_putWord 48 = .ok (.return_, 1) := by decide +kernel
theorem kX8_requirePolygon_0 : am_dec cX8_requirePolygon 0 [.iload_n 1] 1 = true := by decide +kernel
theorem kX8_requirePolygon_4 : am_dec cX8_requirePolygon 4 [.iload_n 1, .aload_n 0] 6 = true := by decide +kernel
theorem kX8_requirePolygon_18 : am_dec cX8_requirePolygon 18 [.dup] 19 = true := by decide +kernel
theorem eX8_requirePolygon_1 : decode cX8_requirePolygon 1 = .ok (.ifCond .lt 14, 3) := by decide +kernel
theorem eX8_requirePolygon_6 : decode cX8_requirePolygon 6 = .ok (.getfield 16, 3) := by decide +kernel
theorem eX8_requirePolygon_9 : decode cX8_requirePolygon 9 = .ok (.getfield 92, 3) := by decide +kernel
theorem eX8_requirePolygon_12 : decode cX8_requirePolygon 12 = .ok (.if_icmp .lt 13, 3) := by decide +kernel
theorem eX8_requirePolygon_15 : decode cX8_requirePolygon 15 = .ok (.new 248, 3) := by decide +kernel
theorem eX8_requirePolygon_19 : decode cX8_requirePolygon 19 = .ok (.ldc 250, 2) := by decide +kernel
theorem eX8_requirePolygon_21 : decode cX8_requirePolygon 21 = .ok (.invokespecial 252, 3) := by decide +kernel
theorem eX8_requirePolygon_24 : decode cX8_requirePolygon 24 = .ok (.athrow, 1) := by decide +kernel
theorem eX8_requirePolygon_25 : decode cX8_requirePolygon 25 = .ok (.return_, 1) := by decide +kernel
theorem kX8_requirePlace_0 : am_dec cX8_requirePlace 0 [.iload_n 2] 1 = true := by decide +kernel
theorem kX8_requirePlace_4 : am_dec cX8_requirePlace 4 [.iload_n 2, .aload_n 0] 6 = true := by decide +kernel
theorem kX8_requirePlace_9 : am_dec cX8_requirePlace 9 [.iload_n 1] 10 = true := by decide +kernel
theorem kX8_requirePlace_22 : am_dec cX8_requirePlace 22 [.dup] 23 = true := by decide +kernel
theorem eX8_requirePlace_1 : decode cX8_requirePlace 1 = .ok (.ifCond .lt 18, 3) := by decide +kernel
theorem eX8_requirePlace_6 : decode cX8_requirePlace 6 = .ok (.getfield 16, 3) := by decide +kernel
theorem eX8_requirePlace_10 : decode cX8_requirePlace 10 = .ok (.invokevirtual 136, 3) := by decide +kernel
theorem eX8_requirePlace_13 : decode cX8_requirePlace 13 = .ok (.getfield 145, 3) := by decide +kernel
theorem eX8_requirePlace_16 : decode cX8_requirePlace 16 = .ok (.if_icmp .lt 13, 3) := by decide +kernel
theorem eX8_requirePlace_19 : decode cX8_requirePlace 19 = .ok (.new 113, 3) := by decide +kernel
theorem eX8_requirePlace_23 : decode cX8_requirePlace 23 = .ok (.ldc 253, 2) := by decide +kernel
theorem eX8_requirePlace_25 : decode cX8_requirePlace 25 = .ok (.invokespecial 117, 3) := by decide +kernel
theorem eX8_requirePlace_28 : decode cX8_requirePlace 28 = .ok (.athrow, 1) := by decide +kernel
theorem eX8_requirePlace_29 : decode cX8_requirePlace 29 = .ok (.return_, 1) := by decide +kernel
theorem kX8_requirePoint_0 : am_dec cX8_requirePoint 0 [.iload_n 1] 1 = true := by decide +kernel
theorem kX8_requirePoint_4 : am_dec cX8_requirePoint 4 [.iload_n 1, .aload_n 0] 6 = true := by decide +kernel
theorem kX8_requirePoint_15 : am_dec cX8_requirePoint 15 [.iload_n 2] 16 = true := by decide +kernel
theorem kX8_requirePoint_19 : am_dec cX8_requirePoint 19 [.iload_n 2, .aload_n 0] 21 = true := by decide +kernel
theorem kX8_requirePoint_33 : am_dec cX8_requirePoint 33 [.dup] 34 = true := by decide +kernel
theorem eX8_requirePoint_1 : decode cX8_requirePoint 1 = .ok (.ifCond .lt 29, 3) := by decide +kernel
theorem eX8_requirePoint_6 : decode cX8_requirePoint 6 = .ok (.getfield 16, 3) := by decide +kernel
theorem eX8_requirePoint_9 : decode cX8_requirePoint 9 = .ok (.getfield 95, 3) := by decide +kernel
theorem eX8_requirePoint_12 : decode cX8_requirePoint 12 = .ok (.if_icmp .gt 18, 3) := by decide +kernel
theorem eX8_requirePoint_16 : decode cX8_requirePoint 16 = .ok (.ifCond .lt 14, 3) := by decide +kernel
theorem eX8_requirePoint_21 : decode cX8_requirePoint 21 = .ok (.getfield 16, 3) := by decide +kernel
theorem eX8_requirePoint_24 : decode cX8_requirePoint 24 = .ok (.getfield 98, 3) := by decide +kernel
theorem eX8_requirePoint_27 : decode cX8_requirePoint 27 = .ok (.if_icmp .le 13, 3) := by decide +kernel
theorem eX8_requirePoint_30 : decode cX8_requirePoint 30 = .ok (.new 66, 3) := by decide +kernel
theorem eX8_requirePoint_34 : decode cX8_requirePoint 34 = .ok (.ldc 255, 2) := by decide +kernel
theorem eX8_requirePoint_36 : decode cX8_requirePoint 36 = .ok (.invokespecial 70, 3) := by decide +kernel
theorem eX8_requirePoint_39 : decode cX8_requirePoint 39 = .ok (.athrow, 1) := by decide +kernel
theorem eX8_requirePoint_40 : decode cX8_requirePoint 40 = .ok (.return_, 1) := by decide +kernel
theorem kX8_requireClosed_0 : am_dec cX8_requireClosed 0 [.aload_n 0] 1 = true := by decide +kernel
theorem kX8_requireClosed_4 : am_dec cX8_requireClosed 4 [.iload_n 1] 5 = true := by decide +kernel
theorem kX8_requireClosed_17 : am_dec cX8_requireClosed 17 [.dup] 18 = true := by decide +kernel
theorem eX8_requireClosed_1 : decode cX8_requireClosed 1 = .ok (.getfield 16, 3) := by decide +kernel
theorem eX8_requireClosed_5 : decode cX8_requireClosed 5 = .ok (.invokevirtual 136, 3) := by decide +kernel
theorem eX8_requireClosed_8 : decode cX8_requireClosed 8 = .ok (.getfield 148, 3) := by decide +kernel
theorem eX8_requireClosed_11 : decode cX8_requireClosed 11 = .ok (.ifCond .ne 14, 3) := by decide +kernel
theorem eX8_requireClosed_14 : decode cX8_requireClosed 14 = .ok (.new 207, 3) := by decide +kernel
theorem eX8_requireClosed_18 : decode cX8_requireClosed 18 = .ok (.ldc_w 257, 3) := by decide +kernel
theorem eX8_requireClosed_21 : decode cX8_requireClosed 21 = .ok (.invokespecial 211, 3) := by decide +kernel
theorem eX8_requireClosed_24 : decode cX8_requireClosed 24 = .ok (.athrow, 1) := by decide +kernel
theorem eX8_requireClosed_25 : decode cX8_requireClosed 25 = .ok (.return_, 1) := by decide +kernel
theorem kX8_isPlayer_0 : am_dec cX8_isPlayer 0 [.iload_n 0] 1 = true := by decide +kernel
theorem kX8_isPlayer_4 : am_dec cX8_isPlayer 4 [.iload_n 0, .iconst 3] 6 = true := by decide +kernel
theorem kX8_isPlayer_9 : am_dec cX8_isPlayer 9 [.iconst 1] 10 = true := by decide +kernel
theorem kX8_isPlayer_13 : am_dec cX8_isPlayer 13 [.iconst 0] 14 = true := by decide +kernel
theorem eX8_isPlayer_1 : decode cX8_isPlayer 1 = .ok (.ifCond .lt 12, 3) := by decide +kernel
theorem eX8_isPlayer_6 : decode cX8_isPlayer 6 = .ok (.if_icmp .gt 7, 3) := by decide +kernel
theorem eX8_isPlayer_10 : decode cX8_isPlayer 10 = .ok (.goto 4, 3) := by decide +kernel
theorem eX8_isPlayer_14 : decode cX8_isPlayer 14 = .ok (.ireturn, 1) := by decide +kernel
