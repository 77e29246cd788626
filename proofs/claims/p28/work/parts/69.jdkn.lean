/-! The JDK's methods that the law's texts reach (by program). -/
def RJ1 : String := "java/lang/StringLatin1"
def RJ3 : String := "jdk/internal/util/Preconditions"
def RJ5 : String := "java/lang/AbstractStringBuilder"
def RJ6 : String := "java/lang/Integer"
def RJ7 : String := "java/util/Arrays"
def RJ8 : String := "jdk/internal/util/ArraysSupport"
theorem in_RJ0 : Cond.initialized RJ0 ∈ GW := (am_gw 59 (by decide +kernel) (by decide +kernel))
theorem in_RJ1 : Cond.initialized RJ1 ∈ GW := (am_gw 60 (by decide +kernel) (by decide +kernel))
theorem in_RJ3 : Cond.initialized RJ3 ∈ GW := (am_gw 61 (by decide +kernel) (by decide +kernel))
theorem in_RJ4 : Cond.initialized RJ4 ∈ GW := (am_gw 66 (by decide +kernel) (by decide +kernel))
theorem in_RJ5 : Cond.initialized RJ5 ∈ GW := (am_gw 65 (by decide +kernel) (by decide +kernel))
theorem in_RJ6 : Cond.initialized RJ6 ∈ GW := (am_gw 70 (by decide +kernel) (by decide +kernel))
theorem in_RJ7 : Cond.initialized RJ7 ∈ GW := (am_gw 68 (by decide +kernel) (by decide +kernel))
theorem in_RJ8 : Cond.initialized RJ8 ∈ GW := (am_gw 67 (by decide +kernel) (by decide +kernel))
def yJ4_init_da8c8 : MethodName := ⟨RJ4, "<init>", "()V"⟩
abbrev cJ4_init_da8c8 : ByteArray := prog_31_method_1_code
abbrev m_J4_init_da8c8 : YR := (yJ4_init_da8c8, cJ4_init_da8c8, 1, (none : Option FieldType), [])
theorem wf_J4_init_da8c8 : am_wf m_J4_init_da8c8 := ⟨(am_gw 1286 (by decide +kernel) (by decide +kernel)), by decide +kernel⟩
theorem im_J4_init_da8c8 : Cond.instanceMethod yJ4_init_da8c8 ∈ GW := (am_gw 1285 (by decide +kernel) (by decide +kernel))
theorem lk_J4_init_da8c8 : am_lk m_J4_init_da8c8 0 := ⟨wf_J4_init_da8c8, rfl, in_RJ4, ⟨by decide +kernel, by decide +kernel⟩, by decide +kernel, by decide⟩
theorem kJ4_init_da8c8_0 : am_dec cJ4_init_da8c8 0 [.aload_n 0, .bipush 16] 3 = true := by decide +kernel
theorem eJ4_init_da8c8_3 : decode cJ4_init_da8c8 3 = .ok (.invokespecial 1, 3) := by decide +kernel
theorem eJ4_init_da8c8_6 : decode cJ4_init_da8c8 6 = .ok (.return_, 1) := by decide +kernel
def yJ4_append_15ec4 : MethodName := ⟨RJ4, "append", "(Ljava/lang/String;)Ljava/lang/StringBuilder;"⟩
abbrev cJ4_append_15ec4 : ByteArray := prog_31_method_7_code
abbrev m_J4_append_15ec4 : YR := (yJ4_append_15ec4, cJ4_append_15ec4, 2, (some (FieldType.object "java/lang/StringBuilder")), [])
theorem wf_J4_append_15ec4 : am_wf m_J4_append_15ec4 := ⟨(am_gw 1316 (by decide +kernel) (by decide +kernel)), by decide +kernel⟩
theorem im_J4_append_15ec4 : Cond.instanceMethod yJ4_append_15ec4 ∈ GW := (am_gw 1314 (by decide +kernel) (by decide +kernel))
theorem lk_J4_append_15ec4 : am_lk m_J4_append_15ec4 1 := ⟨wf_J4_append_15ec4, rfl, in_RJ4, ⟨by decide +kernel, by decide +kernel⟩, by decide +kernel, by decide⟩
theorem sl_J4_append_15ec4 : Cond.selects RJ4 yJ4_append_15ec4 yJ4_append_15ec4 ∈ GW := (am_gw 1315 (by decide +kernel) (by decide +kernel))
theorem kJ4_append_15ec4_0 : am_dec cJ4_append_15ec4 0 [.aload_n 0, .aload_n 1] 2 = true := by decide +kernel
theorem kJ4_append_15ec4_5 : am_dec cJ4_append_15ec4 5 [.pop, .aload_n 0] 7 = true := by decide +kernel
theorem eJ4_append_15ec4_2 : decode cJ4_append_15ec4 2 = .ok (.invokespecial 29, 3) := by decide +kernel
theorem eJ4_append_15ec4_7 : decode cJ4_append_15ec4 7 = .ok (.areturn, 1) := by decide +kernel
def yJ4_append_bf812 : MethodName := ⟨RJ4, "append", "(I)Ljava/lang/StringBuilder;"⟩
abbrev cJ4_append_bf812 : ByteArray := prog_31_method_15_code
abbrev m_J4_append_bf812 : YR := (yJ4_append_bf812, cJ4_append_bf812, 2, (some (FieldType.object "java/lang/StringBuilder")), [])
theorem wf_J4_append_bf812 : am_wf m_J4_append_bf812 := ⟨(am_gw 1407 (by decide +kernel) (by decide +kernel)), by decide +kernel⟩
theorem im_J4_append_bf812 : Cond.instanceMethod yJ4_append_bf812 ∈ GW := (am_gw 1405 (by decide +kernel) (by decide +kernel))
theorem lk_J4_append_bf812 : am_lk m_J4_append_bf812 1 := ⟨wf_J4_append_bf812, rfl, in_RJ4, ⟨by decide +kernel, by decide +kernel⟩, by decide +kernel, by decide⟩
theorem sl_J4_append_bf812 : Cond.selects RJ4 yJ4_append_bf812 yJ4_append_bf812 ∈ GW := (am_gw 1406 (by decide +kernel) (by decide +kernel))
theorem kJ4_append_bf812_0 : am_dec cJ4_append_bf812 0 [.aload_n 0, .iload_n 1] 2 = true := by decide +kernel
theorem kJ4_append_bf812_5 : am_dec cJ4_append_bf812 5 [.pop, .aload_n 0] 7 = true := by decide +kernel
theorem eJ4_append_bf812_2 : decode cJ4_append_bf812 2 = .ok (.invokespecial 53, 3) := by decide +kernel
theorem eJ4_append_bf812_7 : decode cJ4_append_bf812 7 = .ok (.areturn, 1) := by decide +kernel
def yJ4_toString_0e30d : MethodName := ⟨RJ4, "toString", "()Ljava/lang/String;"⟩
abbrev cJ4_toString_0e30d : ByteArray := prog_31_method_42_code
abbrev m_J4_toString_0e30d : YR := (yJ4_toString_0e30d, cJ4_toString_0e30d, 1, (some (FieldType.object "java/lang/String")), [])
theorem wf_J4_toString_0e30d : am_wf m_J4_toString_0e30d := ⟨(am_gw 1432 (by decide +kernel) (by decide +kernel)), by decide +kernel⟩
theorem im_J4_toString_0e30d : Cond.instanceMethod yJ4_toString_0e30d ∈ GW := (am_gw 1430 (by decide +kernel) (by decide +kernel))
theorem lk_J4_toString_0e30d : am_lk m_J4_toString_0e30d 0 := ⟨wf_J4_toString_0e30d, rfl, in_RJ4, ⟨by decide +kernel, by decide +kernel⟩, by decide +kernel, by decide⟩
theorem sl_J4_toString_0e30d : Cond.selects RJ4 yJ4_toString_0e30d yJ4_toString_0e30d ∈ GW := (am_gw 1431 (by decide +kernel) (by decide +kernel))
theorem kJ4_toString_0e30d_3 : am_dec cJ4_toString_0e30d 3 [.dup, .aload_n 0] 5 = true := by decide +kernel
theorem eJ4_toString_0e30d_0 : decode cJ4_toString_0e30d 0 = .ok (.new 18, 3) := by decide +kernel
theorem eJ4_toString_0e30d_5 : decode cJ4_toString_0e30d 5 = .ok (.invokespecial 137, 3) := by decide +kernel
theorem eJ4_toString_0e30d_8 : decode cJ4_toString_0e30d 8 = .ok (.areturn, 1) := by decide +kernel
def yJ4_length_8abf5 : MethodName := ⟨RJ4, "length", "()I"⟩
abbrev cJ4_length_8abf5 : ByteArray := prog_31_method_93_code
abbrev m_J4_length_8abf5 : YR := (yJ4_length_8abf5, cJ4_length_8abf5, 1, (some FieldType.int), [])
theorem wf_J4_length_8abf5 : am_wf m_J4_length_8abf5 := ⟨(am_gw 1452 (by decide +kernel) (by decide +kernel)), by decide +kernel⟩
theorem im_J4_length_8abf5 : Cond.instanceMethod yJ4_length_8abf5 ∈ GW := (am_gw 1451 (by decide +kernel) (by decide +kernel))
theorem lk_J4_length_8abf5 : am_lk m_J4_length_8abf5 0 := ⟨wf_J4_length_8abf5, rfl, in_RJ4, ⟨by decide +kernel, by decide +kernel⟩, by decide +kernel, by decide⟩
theorem kJ4_length_8abf5_0 : am_dec cJ4_length_8abf5 0 [.aload_n 0] 1 = true := by decide +kernel
theorem eJ4_length_8abf5_1 : decode cJ4_length_8abf5 1 = .ok (.invokespecial 343, 3) := by decide +kernel
theorem eJ4_length_8abf5_4 : decode cJ4_length_8abf5 4 = .ok (.ireturn, 1) := by decide +kernel
def yJ5_init_d00df : MethodName := ⟨RJ5, "<init>", "(I)V"⟩
abbrev cJ5_init_d00df : ByteArray := prog_17_method_2_code
abbrev m_J5_init_d00df : YR := (yJ5_init_d00df, cJ5_init_d00df, 2, (none : Option FieldType), [])
theorem wf_J5_init_d00df : am_wf m_J5_init_d00df := ⟨(am_gw 1289 (by decide +kernel) (by decide +kernel)), by decide +kernel⟩
theorem im_J5_init_d00df : Cond.instanceMethod yJ5_init_d00df ∈ GW := (am_gw 1288 (by decide +kernel) (by decide +kernel))
theorem lk_J5_init_d00df : am_lk m_J5_init_d00df 1 := ⟨wf_J5_init_d00df, rfl, in_RJ5, ⟨by decide +kernel, by decide +kernel⟩, by decide +kernel, by decide⟩
theorem kJ5_init_d00df_0 : am_dec cJ5_init_d00df 0 [.aload_n 0] 1 = true := by decide +kernel
theorem kJ5_init_d00df_10 : am_dec cJ5_init_d00df 10 [.aload_n 0, .iload_n 1] 12 = true := by decide +kernel
theorem kJ5_init_d00df_17 : am_dec cJ5_init_d00df 17 [.aload_n 0, .iconst 0] 19 = true := by decide +kernel
theorem kJ5_init_d00df_25 : am_dec cJ5_init_d00df 25 [.aload_n 0, .iload_n 1] 27 = true := by decide +kernel
theorem kJ5_init_d00df_33 : am_dec cJ5_init_d00df 33 [.aload_n 0, .iconst 1] 35 = true := by decide +kernel
theorem eJ5_init_d00df_1 : decode cJ5_init_d00df 1 = .ok (.invokespecial 3, 3) := by decide +kernel
theorem eJ5_init_d00df_4 : decode cJ5_init_d00df 4 = .ok (.getstatic 18, 3) := by decide +kernel
theorem eJ5_init_d00df_7 : decode cJ5_init_d00df 7 = .ok (.ifCond .eq 18, 3) := by decide +kernel
theorem eJ5_init_d00df_12 : decode cJ5_init_d00df 12 = .ok (.newarray .byte, 2) := by decide +kernel
theorem eJ5_init_d00df_14 : decode cJ5_init_d00df 14 = .ok (.putfield 15, 3) := by decide +kernel
theorem eJ5_init_d00df_19 : decode cJ5_init_d00df 19 = .ok (.putfield 22, 3) := by decide +kernel
theorem eJ5_init_d00df_22 : decode cJ5_init_d00df 22 = .ok (.goto 16, 3) := by decide +kernel
theorem eJ5_init_d00df_27 : decode cJ5_init_d00df 27 = .ok (.invokestatic 26, 3) := by decide +kernel
theorem eJ5_init_d00df_30 : decode cJ5_init_d00df 30 = .ok (.putfield 15, 3) := by decide +kernel
theorem eJ5_init_d00df_35 : decode cJ5_init_d00df 35 = .ok (.putfield 22, 3) := by decide +kernel
theorem eJ5_init_d00df_38 : decode cJ5_init_d00df 38 = .ok (.return_, 1) := by decide +kernel
def yJ5_append_cf1ce : MethodName := ⟨RJ5, "append", "(Ljava/lang/String;)Ljava/lang/AbstractStringBuilder;"⟩
abbrev cJ5_append_cf1ce : ByteArray := prog_17_method_22_code
abbrev m_J5_append_cf1ce : YR := (yJ5_append_cf1ce, cJ5_append_cf1ce, 3, (some (FieldType.object "java/lang/AbstractStringBuilder")), [])
theorem wf_J5_append_cf1ce : am_wf m_J5_append_cf1ce := ⟨(am_gw 1319 (by decide +kernel) (by decide +kernel)), by decide +kernel⟩
theorem im_J5_append_cf1ce : Cond.instanceMethod yJ5_append_cf1ce ∈ GW := (am_gw 1318 (by decide +kernel) (by decide +kernel))
theorem lk_J5_append_cf1ce : am_lk m_J5_append_cf1ce 1 := ⟨wf_J5_append_cf1ce, rfl, in_RJ5, ⟨by decide +kernel, by decide +kernel⟩, by decide +kernel, by decide⟩
theorem kJ5_append_cf1ce_0 : am_dec cJ5_append_cf1ce 0 [.aload_n 1] 1 = true := by decide +kernel
theorem kJ5_append_cf1ce_4 : am_dec cJ5_append_cf1ce 4 [.aload_n 0] 5 = true := by decide +kernel
theorem kJ5_append_cf1ce_9 : am_dec cJ5_append_cf1ce 9 [.aload_n 1] 10 = true := by decide +kernel
theorem kJ5_append_cf1ce_13 : am_dec cJ5_append_cf1ce 13 [.istore_n 2, .aload_n 0, .aload_n 0] 16 = true := by decide +kernel
theorem kJ5_append_cf1ce_19 : am_dec cJ5_append_cf1ce 19 [.iload_n 2, .iadd] 21 = true := by decide +kernel
theorem kJ5_append_cf1ce_24 : am_dec cJ5_append_cf1ce 24 [.aload_n 0, .aload_n 0] 26 = true := by decide +kernel
theorem kJ5_append_cf1ce_29 : am_dec cJ5_append_cf1ce 29 [.aload_n 1] 30 = true := by decide +kernel
theorem kJ5_append_cf1ce_33 : am_dec cJ5_append_cf1ce 33 [.aload_n 0, .dup] 35 = true := by decide +kernel
theorem kJ5_append_cf1ce_38 : am_dec cJ5_append_cf1ce 38 [.iload_n 2, .iadd] 40 = true := by decide +kernel
theorem kJ5_append_cf1ce_43 : am_dec cJ5_append_cf1ce 43 [.aload_n 0] 44 = true := by decide +kernel
theorem eJ5_append_cf1ce_1 : decode cJ5_append_cf1ce 1 = .ok (.ifnonnull 8, 3) := by decide +kernel
theorem eJ5_append_cf1ce_5 : decode cJ5_append_cf1ce 5 = .ok (.invokevirtual 204, 3) := by decide +kernel
theorem eJ5_append_cf1ce_8 : decode cJ5_append_cf1ce 8 = .ok (.areturn, 1) := by decide +kernel
theorem eJ5_append_cf1ce_10 : decode cJ5_append_cf1ce 10 = .ok (.invokevirtual 32, 3) := by decide +kernel
theorem eJ5_append_cf1ce_16 : decode cJ5_append_cf1ce 16 = .ok (.getfield 79, 3) := by decide +kernel
theorem eJ5_append_cf1ce_21 : decode cJ5_append_cf1ce 21 = .ok (.invokevirtual 100, 3) := by decide +kernel
theorem eJ5_append_cf1ce_26 : decode cJ5_append_cf1ce 26 = .ok (.getfield 79, 3) := by decide +kernel
theorem eJ5_append_cf1ce_30 : decode cJ5_append_cf1ce 30 = .ok (.invokevirtual 208, 3) := by decide +kernel
theorem eJ5_append_cf1ce_35 : decode cJ5_append_cf1ce 35 = .ok (.getfield 79, 3) := by decide +kernel
theorem eJ5_append_cf1ce_40 : decode cJ5_append_cf1ce 40 = .ok (.putfield 79, 3) := by decide +kernel
theorem eJ5_append_cf1ce_44 : decode cJ5_append_cf1ce 44 = .ok (.areturn, 1) := by decide +kernel
def yJ5_append_c97b9 : MethodName := ⟨RJ5, "append", "(I)Ljava/lang/AbstractStringBuilder;"⟩
abbrev cJ5_append_c97b9 : ByteArray := prog_17_method_32_code
abbrev m_J5_append_c97b9 : YR := (yJ5_append_c97b9, cJ5_append_c97b9, 4, (some (FieldType.object "java/lang/AbstractStringBuilder")), [])
theorem wf_J5_append_c97b9 : am_wf m_J5_append_c97b9 := ⟨(am_gw 1410 (by decide +kernel) (by decide +kernel)), by decide +kernel⟩
theorem im_J5_append_c97b9 : Cond.instanceMethod yJ5_append_c97b9 ∈ GW := (am_gw 1409 (by decide +kernel) (by decide +kernel))
theorem lk_J5_append_c97b9 : am_lk m_J5_append_c97b9 1 := ⟨wf_J5_append_c97b9, rfl, in_RJ5, ⟨by decide +kernel, by decide +kernel⟩, by decide +kernel, by decide⟩
theorem kJ5_append_c97b9_0 : am_dec cJ5_append_c97b9 0 [.aload_n 0] 1 = true := by decide +kernel
theorem kJ5_append_c97b9_4 : am_dec cJ5_append_c97b9 4 [.istore_n 2, .iload_n 2, .iload_n 1] 7 = true := by decide +kernel
theorem kJ5_append_c97b9_10 : am_dec cJ5_append_c97b9 10 [.iadd, .istore_n 3, .aload_n 0, .iload_n 3] 14 = true := by decide +kernel
theorem kJ5_append_c97b9_17 : am_dec cJ5_append_c97b9 17 [.aload_n 0] 18 = true := by decide +kernel
theorem kJ5_append_c97b9_24 : am_dec cJ5_append_c97b9 24 [.iload_n 1, .iload_n 3, .aload_n 0] 27 = true := by decide +kernel
theorem kJ5_append_c97b9_33 : am_dec cJ5_append_c97b9 33 [.pop] 34 = true := by decide +kernel
theorem kJ5_append_c97b9_37 : am_dec cJ5_append_c97b9 37 [.iload_n 1, .iload_n 2, .iload_n 3, .aload_n 0] 41 = true := by decide +kernel
theorem kJ5_append_c97b9_47 : am_dec cJ5_append_c97b9 47 [.pop] 48 = true := by decide +kernel
theorem kJ5_append_c97b9_48 : am_dec cJ5_append_c97b9 48 [.aload_n 0, .iload_n 3] 50 = true := by decide +kernel
theorem kJ5_append_c97b9_53 : am_dec cJ5_append_c97b9 53 [.aload_n 0] 54 = true := by decide +kernel
theorem eJ5_append_c97b9_1 : decode cJ5_append_c97b9 1 = .ok (.getfield 79, 3) := by decide +kernel
theorem eJ5_append_c97b9_7 : decode cJ5_append_c97b9 7 = .ok (.invokestatic 245, 3) := by decide +kernel
theorem eJ5_append_c97b9_14 : decode cJ5_append_c97b9 14 = .ok (.invokevirtual 100, 3) := by decide +kernel
theorem eJ5_append_c97b9_18 : decode cJ5_append_c97b9 18 = .ok (.invokevirtual 83, 3) := by decide +kernel
theorem eJ5_append_c97b9_21 : decode cJ5_append_c97b9 21 = .ok (.ifCond .eq 16, 3) := by decide +kernel
theorem eJ5_append_c97b9_27 : decode cJ5_append_c97b9 27 = .ok (.getfield 15, 3) := by decide +kernel
theorem eJ5_append_c97b9_30 : decode cJ5_append_c97b9 30 = .ok (.invokestatic 248, 3) := by decide +kernel
theorem eJ5_append_c97b9_34 : decode cJ5_append_c97b9 34 = .ok (.goto 14, 3) := by decide +kernel
theorem eJ5_append_c97b9_41 : decode cJ5_append_c97b9 41 = .ok (.getfield 15, 3) := by decide +kernel
theorem eJ5_append_c97b9_44 : decode cJ5_append_c97b9 44 = .ok (.invokestatic 251, 3) := by decide +kernel
theorem eJ5_append_c97b9_50 : decode cJ5_append_c97b9 50 = .ok (.putfield 79, 3) := by decide +kernel
theorem eJ5_append_c97b9_54 : decode cJ5_append_c97b9 54 = .ok (.areturn, 1) := by decide +kernel
def yJ5_ensureCapacityInternal_d00df : MethodName := ⟨RJ5, "ensureCapacityInternal", "(I)V"⟩
abbrev cJ5_ensureCapacityInternal_d00df : ByteArray := prog_17_method_9_code
abbrev m_J5_ensureCapacityInternal_d00df : YR := (yJ5_ensureCapacityInternal_d00df, cJ5_ensureCapacityInternal_d00df, 3, (none : Option FieldType), [])
theorem wf_J5_ensureCapacityInternal_d00df : am_wf m_J5_ensureCapacityInternal_d00df := ⟨(am_gw 1327 (by decide +kernel) (by decide +kernel)), by decide +kernel⟩
theorem im_J5_ensureCapacityInternal_d00df : Cond.instanceMethod yJ5_ensureCapacityInternal_d00df ∈ GW := (am_gw 1326 (by decide +kernel) (by decide +kernel))
theorem lk_J5_ensureCapacityInternal_d00df : am_lk m_J5_ensureCapacityInternal_d00df 1 := ⟨wf_J5_ensureCapacityInternal_d00df, rfl, in_RJ5, ⟨by decide +kernel, by decide +kernel⟩, by decide +kernel, by decide⟩
theorem kJ5_ensureCapacityInternal_d00df_0 : am_dec cJ5_ensureCapacityInternal_d00df 0 [.aload_n 0] 1 = true := by decide +kernel
theorem kJ5_ensureCapacityInternal_d00df_5 : am_dec cJ5_ensureCapacityInternal_d00df 5 [.aload_n 0] 6 = true := by decide +kernel
theorem kJ5_ensureCapacityInternal_d00df_10 : am_dec cJ5_ensureCapacityInternal_d00df 10 [.istore_n 2, .iload_n 1, .iload_n 2, .isub] 14 = true := by decide +kernel
theorem kJ5_ensureCapacityInternal_d00df_17 : am_dec cJ5_ensureCapacityInternal_d00df 17 [.aload_n 0, .aload_n 0] 19 = true := by decide +kernel
theorem kJ5_ensureCapacityInternal_d00df_22 : am_dec cJ5_ensureCapacityInternal_d00df 22 [.aload_n 0, .iload_n 1] 24 = true := by decide +kernel
theorem kJ5_ensureCapacityInternal_d00df_27 : am_dec cJ5_ensureCapacityInternal_d00df 27 [.aload_n 0] 28 = true := by decide +kernel
theorem eJ5_ensureCapacityInternal_d00df_1 : decode cJ5_ensureCapacityInternal_d00df 1 = .ok (.getfield 15, 3) := by decide +kernel
theorem eJ5_ensureCapacityInternal_d00df_4 : decode cJ5_ensureCapacityInternal_d00df 4 = .ok (.arraylength, 1) := by decide +kernel
theorem eJ5_ensureCapacityInternal_d00df_6 : decode cJ5_ensureCapacityInternal_d00df 6 = .ok (.getfield 22, 3) := by decide +kernel
theorem eJ5_ensureCapacityInternal_d00df_9 : decode cJ5_ensureCapacityInternal_d00df 9 = .ok (.ishr, 1) := by decide +kernel
theorem eJ5_ensureCapacityInternal_d00df_14 : decode cJ5_ensureCapacityInternal_d00df 14 = .ok (.ifCond .le 24, 3) := by decide +kernel
theorem eJ5_ensureCapacityInternal_d00df_19 : decode cJ5_ensureCapacityInternal_d00df 19 = .ok (.getfield 15, 3) := by decide +kernel
theorem eJ5_ensureCapacityInternal_d00df_24 : decode cJ5_ensureCapacityInternal_d00df 24 = .ok (.invokevirtual 104, 3) := by decide +kernel
theorem eJ5_ensureCapacityInternal_d00df_28 : decode cJ5_ensureCapacityInternal_d00df 28 = .ok (.getfield 22, 3) := by decide +kernel
theorem eJ5_ensureCapacityInternal_d00df_31 : decode cJ5_ensureCapacityInternal_d00df 31 = .ok (.ishl, 1) := by decide +kernel
theorem eJ5_ensureCapacityInternal_d00df_32 : decode cJ5_ensureCapacityInternal_d00df 32 = .ok (.invokestatic 108, 3) := by decide +kernel
theorem eJ5_ensureCapacityInternal_d00df_35 : decode cJ5_ensureCapacityInternal_d00df 35 = .ok (.putfield 15, 3) := by decide +kernel
theorem eJ5_ensureCapacityInternal_d00df_38 : decode cJ5_ensureCapacityInternal_d00df 38 = .ok (.return_, 1) := by decide +kernel
def yJ5_newCapacity_0f7a4 : MethodName := ⟨RJ5, "newCapacity", "(I)I"⟩
abbrev cJ5_newCapacity_0f7a4 : ByteArray := prog_17_method_10_code
abbrev m_J5_newCapacity_0f7a4 : YR := (yJ5_newCapacity_0f7a4, cJ5_newCapacity_0f7a4, 6, (some FieldType.int), [])
theorem wf_J5_newCapacity_0f7a4 : am_wf m_J5_newCapacity_0f7a4 := ⟨(am_gw 1331 (by decide +kernel) (by decide +kernel)), by decide +kernel⟩
theorem im_J5_newCapacity_0f7a4 : Cond.instanceMethod yJ5_newCapacity_0f7a4 ∈ GW := (am_gw 1330 (by decide +kernel) (by decide +kernel))
theorem lk_J5_newCapacity_0f7a4 : am_lk m_J5_newCapacity_0f7a4 1 := ⟨wf_J5_newCapacity_0f7a4, rfl, in_RJ5, ⟨by decide +kernel, by decide +kernel⟩, by decide +kernel, by decide⟩
theorem kJ5_newCapacity_0f7a4_0 : am_dec cJ5_newCapacity_0f7a4 0 [.aload_n 0] 1 = true := by decide +kernel
theorem kJ5_newCapacity_0f7a4_5 : am_dec cJ5_newCapacity_0f7a4 5 [.istore_n 2, .iload_n 1, .aload_n 0] 8 = true := by decide +kernel
theorem kJ5_newCapacity_0f7a4_12 : am_dec cJ5_newCapacity_0f7a4 12 [.istore_n 3, .iload_n 3, .iload_n 2, .isub, .istore 4, .iload_n 2, .iload 4, .iload_n 2, .iconst 2, .aload_n 0] 24 = true := by decide +kernel
theorem kJ5_newCapacity_0f7a4_28 : am_dec cJ5_newCapacity_0f7a4 28 [.iadd] 29 = true := by decide +kernel
theorem kJ5_newCapacity_0f7a4_32 : am_dec cJ5_newCapacity_0f7a4 32 [.istore 5, .iload 5] 36 = true := by decide +kernel
theorem kJ5_newCapacity_0f7a4_44 : am_dec cJ5_newCapacity_0f7a4 44 [.dup] 45 = true := by decide +kernel
theorem kJ5_newCapacity_0f7a4_51 : am_dec cJ5_newCapacity_0f7a4 51 [.iload 5, .aload_n 0] 54 = true := by decide +kernel
theorem eJ5_newCapacity_0f7a4_1 : decode cJ5_newCapacity_0f7a4 1 = .ok (.getfield 15, 3) := by decide +kernel
theorem eJ5_newCapacity_0f7a4_4 : decode cJ5_newCapacity_0f7a4 4 = .ok (.arraylength, 1) := by decide +kernel
theorem eJ5_newCapacity_0f7a4_8 : decode cJ5_newCapacity_0f7a4 8 = .ok (.getfield 22, 3) := by decide +kernel
theorem eJ5_newCapacity_0f7a4_11 : decode cJ5_newCapacity_0f7a4 11 = .ok (.ishl, 1) := by decide +kernel
theorem eJ5_newCapacity_0f7a4_24 : decode cJ5_newCapacity_0f7a4 24 = .ok (.getfield 22, 3) := by decide +kernel
theorem eJ5_newCapacity_0f7a4_27 : decode cJ5_newCapacity_0f7a4 27 = .ok (.ishl, 1) := by decide +kernel
theorem eJ5_newCapacity_0f7a4_29 : decode cJ5_newCapacity_0f7a4 29 = .ok (.invokestatic 114, 3) := by decide +kernel
theorem eJ5_newCapacity_0f7a4_36 : decode cJ5_newCapacity_0f7a4 36 = .ok (.ldc 39, 2) := by decide +kernel
theorem eJ5_newCapacity_0f7a4_38 : decode cJ5_newCapacity_0f7a4 38 = .ok (.if_icmp .ne 13, 3) := by decide +kernel
theorem eJ5_newCapacity_0f7a4_41 : decode cJ5_newCapacity_0f7a4 41 = .ok (.new 120, 3) := by decide +kernel
theorem eJ5_newCapacity_0f7a4_45 : decode cJ5_newCapacity_0f7a4 45 = .ok (.ldc 122, 2) := by decide +kernel
theorem eJ5_newCapacity_0f7a4_47 : decode cJ5_newCapacity_0f7a4 47 = .ok (.invokespecial 124, 3) := by decide +kernel
theorem eJ5_newCapacity_0f7a4_50 : decode cJ5_newCapacity_0f7a4 50 = .ok (.athrow, 1) := by decide +kernel
theorem eJ5_newCapacity_0f7a4_54 : decode cJ5_newCapacity_0f7a4 54 = .ok (.getfield 22, 3) := by decide +kernel
theorem eJ5_newCapacity_0f7a4_57 : decode cJ5_newCapacity_0f7a4 57 = .ok (.ishr, 1) := by decide +kernel
theorem eJ5_newCapacity_0f7a4_58 : decode cJ5_newCapacity_0f7a4 58 = .ok (.ireturn, 1) := by decide +kernel
def yJ5_length_8abf5 : MethodName := ⟨RJ5, "length", "()I"⟩
abbrev cJ5_length_8abf5 : ByteArray := prog_17_method_6_code
abbrev m_J5_length_8abf5 : YR := (yJ5_length_8abf5, cJ5_length_8abf5, 1, (some FieldType.int), [])
theorem wf_J5_length_8abf5 : am_wf m_J5_length_8abf5 := ⟨(am_gw 1454 (by decide +kernel) (by decide +kernel)), by decide +kernel⟩
theorem im_J5_length_8abf5 : Cond.instanceMethod yJ5_length_8abf5 ∈ GW := (am_gw 1448 (by decide +kernel) (by decide +kernel))
theorem lk_J5_length_8abf5 : am_lk m_J5_length_8abf5 0 := ⟨wf_J5_length_8abf5, rfl, in_RJ5, ⟨by decide +kernel, by decide +kernel⟩, by decide +kernel, by decide⟩
theorem kJ5_length_8abf5_0 : am_dec cJ5_length_8abf5 0 [.aload_n 0] 1 = true := by decide +kernel
theorem eJ5_length_8abf5_1 : decode cJ5_length_8abf5 1 = .ok (.getfield 79, 3) := by decide +kernel
theorem eJ5_length_8abf5_4 : decode cJ5_length_8abf5 4 = .ok (.ireturn, 1) := by decide +kernel
def yJ5_getValue_6d5f1 : MethodName := ⟨RJ5, "getValue", "()[B"⟩
abbrev cJ5_getValue_6d5f1 : ByteArray := prog_17_method_64_code
abbrev m_J5_getValue_6d5f1 : YR := (yJ5_getValue_6d5f1, cJ5_getValue_6d5f1, 1, (some (FieldType.array FieldType.byte)), [])
theorem wf_J5_getValue_6d5f1 : am_wf m_J5_getValue_6d5f1 := ⟨(am_gw 1446 (by decide +kernel) (by decide +kernel)), by decide +kernel⟩
theorem im_J5_getValue_6d5f1 : Cond.instanceMethod yJ5_getValue_6d5f1 ∈ GW := (am_gw 1443 (by decide +kernel) (by decide +kernel))
theorem lk_J5_getValue_6d5f1 : am_lk m_J5_getValue_6d5f1 0 := ⟨wf_J5_getValue_6d5f1, rfl, in_RJ5, ⟨by decide +kernel, by decide +kernel⟩, by decide +kernel, by decide⟩
theorem kJ5_getValue_6d5f1_0 : am_dec cJ5_getValue_6d5f1 0 [.aload_n 0] 1 = true := by decide +kernel
theorem eJ5_getValue_6d5f1_1 : decode cJ5_getValue_6d5f1 1 = .ok (.getfield 15, 3) := by decide +kernel
theorem eJ5_getValue_6d5f1_4 : decode cJ5_getValue_6d5f1 4 = .ok (.areturn, 1) := by decide +kernel
def yJ5_isLatin1_aae02 : MethodName := ⟨RJ5, "isLatin1", "()Z"⟩
abbrev cJ5_isLatin1_aae02 : ByteArray := prog_17_method_68_code
abbrev m_J5_isLatin1_aae02 : YR := (yJ5_isLatin1_aae02, cJ5_isLatin1_aae02, 1, (some FieldType.boolean), [])
theorem wf_J5_isLatin1_aae02 : am_wf m_J5_isLatin1_aae02 := ⟨(am_gw 1353 (by decide +kernel) (by decide +kernel)), by decide +kernel⟩
theorem im_J5_isLatin1_aae02 : Cond.instanceMethod yJ5_isLatin1_aae02 ∈ GW := (am_gw 1350 (by decide +kernel) (by decide +kernel))
theorem lk_J5_isLatin1_aae02 : am_lk m_J5_isLatin1_aae02 0 := ⟨wf_J5_isLatin1_aae02, rfl, in_RJ5, ⟨by decide +kernel, by decide +kernel⟩, by decide +kernel, by decide⟩
theorem kJ5_isLatin1_aae02_6 : am_dec cJ5_isLatin1_aae02 6 [.aload_n 0] 7 = true := by decide +kernel
theorem kJ5_isLatin1_aae02_13 : am_dec cJ5_isLatin1_aae02 13 [.iconst 1] 14 = true := by decide +kernel
theorem kJ5_isLatin1_aae02_17 : am_dec cJ5_isLatin1_aae02 17 [.iconst 0] 18 = true := by decide +kernel
theorem eJ5_isLatin1_aae02_0 : decode cJ5_isLatin1_aae02 0 = .ok (.getstatic 18, 3) := by decide +kernel
theorem eJ5_isLatin1_aae02_3 : decode cJ5_isLatin1_aae02 3 = .ok (.ifCond .eq 14, 3) := by decide +kernel
theorem eJ5_isLatin1_aae02_7 : decode cJ5_isLatin1_aae02 7 = .ok (.getfield 22, 3) := by decide +kernel
theorem eJ5_isLatin1_aae02_10 : decode cJ5_isLatin1_aae02 10 = .ok (.ifCond .ne 7, 3) := by decide +kernel
theorem eJ5_isLatin1_aae02_14 : decode cJ5_isLatin1_aae02 14 = .ok (.goto 4, 3) := by decide +kernel
theorem eJ5_isLatin1_aae02_18 : decode cJ5_isLatin1_aae02 18 = .ok (.ireturn, 1) := by decide +kernel
def yJ5_inflateIfNeededFor_a7421 : MethodName := ⟨RJ5, "inflateIfNeededFor", "(Ljava/lang/String;)V"⟩
abbrev cJ5_inflateIfNeededFor_a7421 : ByteArray := prog_17_method_71_code
abbrev m_J5_inflateIfNeededFor_a7421 : YR := (yJ5_inflateIfNeededFor_a7421, cJ5_inflateIfNeededFor_a7421, 2, (none : Option FieldType), [])
theorem wf_J5_inflateIfNeededFor_a7421 : am_wf m_J5_inflateIfNeededFor_a7421 := ⟨(am_gw 1377 (by decide +kernel) (by decide +kernel)), by decide +kernel⟩
theorem im_J5_inflateIfNeededFor_a7421 : Cond.instanceMethod yJ5_inflateIfNeededFor_a7421 ∈ GW := (am_gw 1376 (by decide +kernel) (by decide +kernel))
theorem lk_J5_inflateIfNeededFor_a7421 : am_lk m_J5_inflateIfNeededFor_a7421 1 := ⟨wf_J5_inflateIfNeededFor_a7421, rfl, in_RJ5, ⟨by decide +kernel, by decide +kernel⟩, by decide +kernel, by decide⟩
theorem kJ5_inflateIfNeededFor_a7421_6 : am_dec cJ5_inflateIfNeededFor_a7421 6 [.aload_n 0] 7 = true := by decide +kernel
theorem kJ5_inflateIfNeededFor_a7421_10 : am_dec cJ5_inflateIfNeededFor_a7421 10 [.aload_n 1] 11 = true := by decide +kernel
theorem kJ5_inflateIfNeededFor_a7421_17 : am_dec cJ5_inflateIfNeededFor_a7421 17 [.aload_n 0] 18 = true := by decide +kernel
theorem eJ5_inflateIfNeededFor_a7421_0 : decode cJ5_inflateIfNeededFor_a7421 0 = .ok (.getstatic 18, 3) := by decide +kernel
theorem eJ5_inflateIfNeededFor_a7421_3 : decode cJ5_inflateIfNeededFor_a7421 3 = .ok (.ifCond .eq 18, 3) := by decide +kernel
theorem eJ5_inflateIfNeededFor_a7421_7 : decode cJ5_inflateIfNeededFor_a7421 7 = .ok (.getfield 22, 3) := by decide +kernel
theorem eJ5_inflateIfNeededFor_a7421_11 : decode cJ5_inflateIfNeededFor_a7421 11 = .ok (.invokevirtual 40, 3) := by decide +kernel
theorem eJ5_inflateIfNeededFor_a7421_14 : decode cJ5_inflateIfNeededFor_a7421 14 = .ok (.if_icmp .eq 7, 3) := by decide +kernel
theorem eJ5_inflateIfNeededFor_a7421_18 : decode cJ5_inflateIfNeededFor_a7421 18 = .ok (.invokevirtual 195, 3) := by decide +kernel
theorem eJ5_inflateIfNeededFor_a7421_21 : decode cJ5_inflateIfNeededFor_a7421 21 = .ok (.return_, 1) := by decide +kernel
def yJ5_putStringAt_47b60 : MethodName := ⟨RJ5, "putStringAt", "(ILjava/lang/String;)V"⟩
abbrev cJ5_putStringAt_47b60 : ByteArray := prog_17_method_73_code
abbrev m_J5_putStringAt_47b60 : YR := (yJ5_putStringAt_47b60, cJ5_putStringAt_47b60, 3, (none : Option FieldType), [])
theorem wf_J5_putStringAt_47b60 : am_wf m_J5_putStringAt_47b60 := ⟨(am_gw 1373 (by decide +kernel) (by decide +kernel)), by decide +kernel⟩
theorem im_J5_putStringAt_47b60 : Cond.instanceMethod yJ5_putStringAt_47b60 ∈ GW := (am_gw 1372 (by decide +kernel) (by decide +kernel))
theorem lk_J5_putStringAt_47b60 : am_lk m_J5_putStringAt_47b60 2 := ⟨wf_J5_putStringAt_47b60, rfl, in_RJ5, ⟨by decide +kernel, by decide +kernel⟩, by decide +kernel, by decide⟩
theorem kJ5_putStringAt_47b60_0 : am_dec cJ5_putStringAt_47b60 0 [.aload_n 0, .aload_n 2] 2 = true := by decide +kernel
theorem kJ5_putStringAt_47b60_5 : am_dec cJ5_putStringAt_47b60 5 [.aload_n 2, .aload_n 0] 7 = true := by decide +kernel
theorem kJ5_putStringAt_47b60_10 : am_dec cJ5_putStringAt_47b60 10 [.iload_n 1, .aload_n 0] 12 = true := by decide +kernel
theorem eJ5_putStringAt_47b60_2 : decode cJ5_putStringAt_47b60 2 = .ok (.invokevirtual 397, 3) := by decide +kernel
theorem eJ5_putStringAt_47b60_7 : decode cJ5_putStringAt_47b60 7 = .ok (.getfield 15, 3) := by decide +kernel
theorem eJ5_putStringAt_47b60_12 : decode cJ5_putStringAt_47b60 12 = .ok (.getfield 22, 3) := by decide +kernel
theorem eJ5_putStringAt_47b60_15 : decode cJ5_putStringAt_47b60 15 = .ok (.invokevirtual 399, 3) := by decide +kernel
theorem eJ5_putStringAt_47b60_18 : decode cJ5_putStringAt_47b60 18 = .ok (.return_, 1) := by decide +kernel
def yJ0_init_81219 : MethodName := ⟨RJ0, "<init>", "(Ljava/lang/StringBuilder;)V"⟩
abbrev cJ0_init_81219 : ByteArray := prog_30_method_53_code
abbrev m_J0_init_81219 : YR := (yJ0_init_81219, cJ0_init_81219, 2, (none : Option FieldType), [])
theorem wf_J0_init_81219 : am_wf m_J0_init_81219 := ⟨(am_gw 1437 (by decide +kernel) (by decide +kernel)), by decide +kernel⟩
theorem im_J0_init_81219 : Cond.instanceMethod yJ0_init_81219 ∈ GW := (am_gw 1436 (by decide +kernel) (by decide +kernel))
theorem lk_J0_init_81219 : am_lk m_J0_init_81219 1 := ⟨wf_J0_init_81219, rfl, in_RJ0, ⟨by decide +kernel, by decide +kernel⟩, by decide +kernel, by decide⟩
theorem kJ0_init_81219_0 : am_dec cJ0_init_81219 0 [.aload_n 0, .aload_n 1] 2 = true := by decide +kernel
theorem eJ0_init_81219_2 : decode cJ0_init_81219 2 = .ok (.aconst_null, 1) := by decide +kernel
theorem eJ0_init_81219_3 : decode cJ0_init_81219 3 = .ok (.invokespecial 489, 3) := by decide +kernel
theorem eJ0_init_81219_6 : decode cJ0_init_81219 6 = .ok (.return_, 1) := by decide +kernel
def yJ0_init_db425 : MethodName := ⟨RJ0, "<init>", "(Ljava/lang/AbstractStringBuilder;Ljava/lang/Void;)V"⟩
abbrev cJ0_init_db425 : ByteArray := prog_30_method_150_code
abbrev m_J0_init_db425 : YR := (yJ0_init_db425, cJ0_init_db425, 5, (none : Option FieldType), [])
theorem wf_J0_init_db425 : am_wf m_J0_init_db425 := ⟨(am_gw 1440 (by decide +kernel) (by decide +kernel)), by decide +kernel⟩
theorem im_J0_init_db425 : Cond.instanceMethod yJ0_init_db425 ∈ GW := (am_gw 1439 (by decide +kernel) (by decide +kernel))
theorem lk_J0_init_db425 : am_lk m_J0_init_db425 2 := ⟨wf_J0_init_db425, rfl, in_RJ0, ⟨by decide +kernel, by decide +kernel⟩, by decide +kernel, by decide⟩
theorem kJ0_init_db425_0 : am_dec cJ0_init_db425 0 [.aload_n 0] 1 = true := by decide +kernel
theorem kJ0_init_db425_4 : am_dec cJ0_init_db425 4 [.aload_n 1] 5 = true := by decide +kernel
theorem kJ0_init_db425_8 : am_dec cJ0_init_db425 8 [.astore_n 3, .aload_n 1] 10 = true := by decide +kernel
theorem kJ0_init_db425_13 : am_dec cJ0_init_db425 13 [.istore 4, .aload_n 1] 16 = true := by decide +kernel
theorem kJ0_init_db425_22 : am_dec cJ0_init_db425 22 [.aload_n 0, .iconst 0] 24 = true := by decide +kernel
theorem kJ0_init_db425_27 : am_dec cJ0_init_db425 27 [.aload_n 0, .aload_n 3, .iconst 0, .iload 4] 32 = true := by decide +kernel
theorem kJ0_init_db425_47 : am_dec cJ0_init_db425 47 [.aload_n 1] 48 = true := by decide +kernel
theorem kJ0_init_db425_54 : am_dec cJ0_init_db425 54 [.aload_n 0, .aload_n 3, .iconst 0, .iload 4] 59 = true := by decide +kernel
theorem kJ0_init_db425_65 : am_dec cJ0_init_db425 65 [.aload_n 0, .aload_n 0] 67 = true := by decide +kernel
theorem kJ0_init_db425_70 : am_dec cJ0_init_db425 70 [.iload 4] 72 = true := by decide +kernel
theorem kJ0_init_db425_79 : am_dec cJ0_init_db425 79 [.aload_n 0, .iconst 1] 81 = true := by decide +kernel
theorem kJ0_init_db425_84 : am_dec cJ0_init_db425 84 [.aload_n 0, .aload_n 3, .iconst 0, .iload 4, .iconst 1] 90 = true := by decide +kernel
theorem eJ0_init_db425_1 : decode cJ0_init_db425 1 = .ok (.invokespecial 1, 3) := by decide +kernel
theorem eJ0_init_db425_5 : decode cJ0_init_db425 5 = .ok (.invokevirtual 552, 3) := by decide +kernel
theorem eJ0_init_db425_10 : decode cJ0_init_db425 10 = .ok (.invokevirtual 549, 3) := by decide +kernel
theorem eJ0_init_db425_16 : decode cJ0_init_db425 16 = .ok (.invokevirtual 1047, 3) := by decide +kernel
theorem eJ0_init_db425_19 : decode cJ0_init_db425 19 = .ok (.ifCond .eq 22, 3) := by decide +kernel
theorem eJ0_init_db425_24 : decode cJ0_init_db425 24 = .ok (.putfield 15, 3) := by decide +kernel
theorem eJ0_init_db425_32 : decode cJ0_init_db425 32 = .ok (.invokestatic 54, 3) := by decide +kernel
theorem eJ0_init_db425_35 : decode cJ0_init_db425 35 = .ok (.putfield 9, 3) := by decide +kernel
theorem eJ0_init_db425_38 : decode cJ0_init_db425 38 = .ok (.goto 59, 3) := by decide +kernel
theorem eJ0_init_db425_41 : decode cJ0_init_db425 41 = .ok (.getstatic 38, 3) := by decide +kernel
theorem eJ0_init_db425_44 : decode cJ0_init_db425 44 = .ok (.ifCond .eq 35, 3) := by decide +kernel
theorem eJ0_init_db425_48 : decode cJ0_init_db425 48 = .ok (.getfield 1048, 3) := by decide +kernel
theorem eJ0_init_db425_51 : decode cJ0_init_db425 51 = .ok (.ifCond .eq 28, 3) := by decide +kernel
theorem eJ0_init_db425_59 : decode cJ0_init_db425 59 = .ok (.invokestatic 1051, 3) := by decide +kernel
theorem eJ0_init_db425_62 : decode cJ0_init_db425 62 = .ok (.putfield 9, 3) := by decide +kernel
theorem eJ0_init_db425_67 : decode cJ0_init_db425 67 = .ok (.getfield 9, 3) := by decide +kernel
theorem eJ0_init_db425_72 : decode cJ0_init_db425 72 = .ok (.invokestatic 47, 3) := by decide +kernel
theorem eJ0_init_db425_75 : decode cJ0_init_db425 75 = .ok (.putfield 15, 3) := by decide +kernel
theorem eJ0_init_db425_78 : decode cJ0_init_db425 78 = .ok (.return_, 1) := by decide +kernel
theorem eJ0_init_db425_81 : decode cJ0_init_db425 81 = .ok (.putfield 15, 3) := by decide +kernel
theorem eJ0_init_db425_90 : decode cJ0_init_db425 90 = .ok (.ishl, 1) := by decide +kernel
theorem eJ0_init_db425_91 : decode cJ0_init_db425 91 = .ok (.invokestatic 54, 3) := by decide +kernel
theorem eJ0_init_db425_94 : decode cJ0_init_db425 94 = .ok (.putfield 9, 3) := by decide +kernel
theorem eJ0_init_db425_97 : decode cJ0_init_db425 97 = .ok (.return_, 1) := by decide +kernel
def yJ0_length_8abf5 : MethodName := ⟨RJ0, "length", "()I"⟩
abbrev cJ0_length_8abf5 : ByteArray := prog_30_method_54_code
abbrev m_J0_length_8abf5 : YR := (yJ0_length_8abf5, cJ0_length_8abf5, 1, (some FieldType.int), [])
theorem wf_J0_length_8abf5 : am_wf m_J0_length_8abf5 := ⟨(am_gw 748 (by decide +kernel) (by decide +kernel)), by decide +kernel⟩
theorem im_J0_length_8abf5 : Cond.instanceMethod yJ0_length_8abf5 ∈ GW := (am_gw 746 (by decide +kernel) (by decide +kernel))
theorem lk_J0_length_8abf5 : am_lk m_J0_length_8abf5 0 := ⟨wf_J0_length_8abf5, rfl, in_RJ0, ⟨by decide +kernel, by decide +kernel⟩, by decide +kernel, by decide⟩
theorem sl_J0_length_8abf5 : Cond.selects RJ0 yJ0_length_8abf5 yJ0_length_8abf5 ∈ GW := (am_gw 747 (by decide +kernel) (by decide +kernel))
theorem kJ0_length_8abf5_0 : am_dec cJ0_length_8abf5 0 [.aload_n 0] 1 = true := by decide +kernel
theorem kJ0_length_8abf5_5 : am_dec cJ0_length_8abf5 5 [.aload_n 0] 6 = true := by decide +kernel
theorem eJ0_length_8abf5_1 : decode cJ0_length_8abf5 1 = .ok (.getfield 9, 3) := by decide +kernel
theorem eJ0_length_8abf5_4 : decode cJ0_length_8abf5 4 = .ok (.arraylength, 1) := by decide +kernel
theorem eJ0_length_8abf5_6 : decode cJ0_length_8abf5 6 = .ok (.invokevirtual 335, 3) := by decide +kernel
theorem eJ0_length_8abf5_9 : decode cJ0_length_8abf5 9 = .ok (.ishr, 1) := by decide +kernel
theorem eJ0_length_8abf5_10 : decode cJ0_length_8abf5 10 = .ok (.ireturn, 1) := by decide +kernel
def yJ0_charAt_5068e : MethodName := ⟨RJ0, "charAt", "(I)C"⟩
abbrev cJ0_charAt_5068e : ByteArray := prog_30_method_56_code
abbrev m_J0_charAt_5068e : YR := (yJ0_charAt_5068e, cJ0_charAt_5068e, 2, (some FieldType.char), [])
theorem wf_J0_charAt_5068e : am_wf m_J0_charAt_5068e := ⟨(am_gw 758 (by decide +kernel) (by decide +kernel)), by decide +kernel⟩
theorem im_J0_charAt_5068e : Cond.instanceMethod yJ0_charAt_5068e ∈ GW := (am_gw 756 (by decide +kernel) (by decide +kernel))
theorem lk_J0_charAt_5068e : am_lk m_J0_charAt_5068e 1 := ⟨wf_J0_charAt_5068e, rfl, in_RJ0, ⟨by decide +kernel, by decide +kernel⟩, by decide +kernel, by decide⟩
theorem sl_J0_charAt_5068e : Cond.selects RJ0 yJ0_charAt_5068e yJ0_charAt_5068e ∈ GW := (am_gw 757 (by decide +kernel) (by decide +kernel))
theorem kJ0_charAt_5068e_0 : am_dec cJ0_charAt_5068e 0 [.aload_n 0] 1 = true := by decide +kernel
theorem kJ0_charAt_5068e_7 : am_dec cJ0_charAt_5068e 7 [.aload_n 0] 8 = true := by decide +kernel
theorem kJ0_charAt_5068e_11 : am_dec cJ0_charAt_5068e 11 [.iload_n 1] 12 = true := by decide +kernel
theorem kJ0_charAt_5068e_16 : am_dec cJ0_charAt_5068e 16 [.aload_n 0] 17 = true := by decide +kernel
theorem kJ0_charAt_5068e_20 : am_dec cJ0_charAt_5068e 20 [.iload_n 1] 21 = true := by decide +kernel
theorem eJ0_charAt_5068e_1 : decode cJ0_charAt_5068e 1 = .ok (.invokevirtual 492, 3) := by decide +kernel
theorem eJ0_charAt_5068e_4 : decode cJ0_charAt_5068e 4 = .ok (.ifCond .eq 12, 3) := by decide +kernel
theorem eJ0_charAt_5068e_8 : decode cJ0_charAt_5068e 8 = .ok (.getfield 9, 3) := by decide +kernel
theorem eJ0_charAt_5068e_12 : decode cJ0_charAt_5068e 12 = .ok (.invokestatic 495, 3) := by decide +kernel
theorem eJ0_charAt_5068e_15 : decode cJ0_charAt_5068e 15 = .ok (.ireturn, 1) := by decide +kernel
theorem eJ0_charAt_5068e_17 : decode cJ0_charAt_5068e 17 = .ok (.getfield 9, 3) := by decide +kernel
theorem eJ0_charAt_5068e_21 : decode cJ0_charAt_5068e 21 = .ok (.invokestatic 498, 3) := by decide +kernel
theorem eJ0_charAt_5068e_24 : decode cJ0_charAt_5068e 24 = .ok (.ireturn, 1) := by decide +kernel
def yJ0_getBytes_840e7 : MethodName := ⟨RJ0, "getBytes", "([BIB)V"⟩
abbrev cJ0_getBytes_840e7 : ByteArray := prog_30_method_147_code
abbrev m_J0_getBytes_840e7 : YR := (yJ0_getBytes_840e7, cJ0_getBytes_840e7, 4, (none : Option FieldType), [])
theorem wf_J0_getBytes_840e7 : am_wf m_J0_getBytes_840e7 := ⟨(am_gw 1401 (by decide +kernel) (by decide +kernel)), by decide +kernel⟩
theorem im_J0_getBytes_840e7 : Cond.instanceMethod yJ0_getBytes_840e7 ∈ GW := (am_gw 1399 (by decide +kernel) (by decide +kernel))
theorem lk_J0_getBytes_840e7 : am_lk m_J0_getBytes_840e7 3 := ⟨wf_J0_getBytes_840e7, rfl, in_RJ0, ⟨by decide +kernel, by decide +kernel⟩, by decide +kernel, by decide⟩
theorem sl_J0_getBytes_840e7 : Cond.selects RJ0 yJ0_getBytes_840e7 yJ0_getBytes_840e7 ∈ GW := (am_gw 1400 (by decide +kernel) (by decide +kernel))
theorem kJ0_getBytes_840e7_0 : am_dec cJ0_getBytes_840e7 0 [.aload_n 0] 1 = true := by decide +kernel
theorem kJ0_getBytes_840e7_4 : am_dec cJ0_getBytes_840e7 4 [.iload_n 3] 5 = true := by decide +kernel
theorem kJ0_getBytes_840e7_8 : am_dec cJ0_getBytes_840e7 8 [.aload_n 0] 9 = true := by decide +kernel
theorem kJ0_getBytes_840e7_12 : am_dec cJ0_getBytes_840e7 12 [.iconst 0, .aload_n 1, .iload_n 2, .iload_n 3] 16 = true := by decide +kernel
theorem kJ0_getBytes_840e7_17 : am_dec cJ0_getBytes_840e7 17 [.aload_n 0] 18 = true := by decide +kernel
theorem kJ0_getBytes_840e7_28 : am_dec cJ0_getBytes_840e7 28 [.aload_n 0] 29 = true := by decide +kernel
theorem kJ0_getBytes_840e7_32 : am_dec cJ0_getBytes_840e7 32 [.iconst 0, .aload_n 1, .iload_n 2, .aload_n 0] 36 = true := by decide +kernel
theorem eJ0_getBytes_840e7_1 : decode cJ0_getBytes_840e7 1 = .ok (.invokevirtual 335, 3) := by decide +kernel
theorem eJ0_getBytes_840e7_5 : decode cJ0_getBytes_840e7 5 = .ok (.if_icmp .ne 23, 3) := by decide +kernel
theorem eJ0_getBytes_840e7_9 : decode cJ0_getBytes_840e7 9 = .ok (.getfield 9, 3) := by decide +kernel
theorem eJ0_getBytes_840e7_16 : decode cJ0_getBytes_840e7 16 = .ok (.ishl, 1) := by decide +kernel
theorem eJ0_getBytes_840e7_18 : decode cJ0_getBytes_840e7 18 = .ok (.getfield 9, 3) := by decide +kernel
theorem eJ0_getBytes_840e7_21 : decode cJ0_getBytes_840e7 21 = .ok (.arraylength, 1) := by decide +kernel
theorem eJ0_getBytes_840e7_22 : decode cJ0_getBytes_840e7 22 = .ok (.invokestatic 212, 3) := by decide +kernel
theorem eJ0_getBytes_840e7_25 : decode cJ0_getBytes_840e7 25 = .ok (.goto 18, 3) := by decide +kernel
theorem eJ0_getBytes_840e7_29 : decode cJ0_getBytes_840e7 29 = .ok (.getfield 9, 3) := by decide +kernel
theorem eJ0_getBytes_840e7_36 : decode cJ0_getBytes_840e7 36 = .ok (.getfield 9, 3) := by decide +kernel
theorem eJ0_getBytes_840e7_39 : decode cJ0_getBytes_840e7 39 = .ok (.arraylength, 1) := by decide +kernel
theorem eJ0_getBytes_840e7_40 : decode cJ0_getBytes_840e7 40 = .ok (.invokestatic 106, 3) := by decide +kernel
theorem eJ0_getBytes_840e7_43 : decode cJ0_getBytes_840e7 43 = .ok (.return_, 1) := by decide +kernel
def yJ0_coder_7d493 : MethodName := ⟨RJ0, "coder", "()B"⟩
abbrev cJ0_coder_7d493 : ByteArray := prog_30_method_152_code
abbrev m_J0_coder_7d493 : YR := (yJ0_coder_7d493, cJ0_coder_7d493, 1, (some FieldType.byte), [])
theorem wf_J0_coder_7d493 : am_wf m_J0_coder_7d493 := ⟨(am_gw 752 (by decide +kernel) (by decide +kernel)), by decide +kernel⟩
theorem im_J0_coder_7d493 : Cond.instanceMethod yJ0_coder_7d493 ∈ GW := (am_gw 750 (by decide +kernel) (by decide +kernel))
theorem lk_J0_coder_7d493 : am_lk m_J0_coder_7d493 0 := ⟨wf_J0_coder_7d493, rfl, in_RJ0, ⟨by decide +kernel, by decide +kernel⟩, by decide +kernel, by decide⟩
theorem sl_J0_coder_7d493 : Cond.selects RJ0 yJ0_coder_7d493 yJ0_coder_7d493 ∈ GW := (am_gw 751 (by decide +kernel) (by decide +kernel))
theorem kJ0_coder_7d493_6 : am_dec cJ0_coder_7d493 6 [.aload_n 0] 7 = true := by decide +kernel
theorem kJ0_coder_7d493_13 : am_dec cJ0_coder_7d493 13 [.iconst 1] 14 = true := by decide +kernel
theorem eJ0_coder_7d493_0 : decode cJ0_coder_7d493 0 = .ok (.getstatic 38, 3) := by decide +kernel
theorem eJ0_coder_7d493_3 : decode cJ0_coder_7d493 3 = .ok (.ifCond .eq 10, 3) := by decide +kernel
theorem eJ0_coder_7d493_7 : decode cJ0_coder_7d493 7 = .ok (.getfield 15, 3) := by decide +kernel
theorem eJ0_coder_7d493_10 : decode cJ0_coder_7d493 10 = .ok (.goto 4, 3) := by decide +kernel
theorem eJ0_coder_7d493_14 : decode cJ0_coder_7d493 14 = .ok (.ireturn, 1) := by decide +kernel
def yJ0_isLatin1_aae02 : MethodName := ⟨RJ0, "isLatin1", "()Z"⟩
abbrev cJ0_isLatin1_aae02 : ByteArray := prog_30_method_154_code
abbrev m_J0_isLatin1_aae02 : YR := (yJ0_isLatin1_aae02, cJ0_isLatin1_aae02, 1, (some FieldType.boolean), [])
theorem wf_J0_isLatin1_aae02 : am_wf m_J0_isLatin1_aae02 := ⟨(am_gw 762 (by decide +kernel) (by decide +kernel)), by decide +kernel⟩
theorem im_J0_isLatin1_aae02 : Cond.instanceMethod yJ0_isLatin1_aae02 ∈ GW := (am_gw 760 (by decide +kernel) (by decide +kernel))
theorem lk_J0_isLatin1_aae02 : am_lk m_J0_isLatin1_aae02 0 := ⟨wf_J0_isLatin1_aae02, rfl, in_RJ0, ⟨by decide +kernel, by decide +kernel⟩, by decide +kernel, by decide⟩
theorem sl_J0_isLatin1_aae02 : Cond.selects RJ0 yJ0_isLatin1_aae02 yJ0_isLatin1_aae02 ∈ GW := (am_gw 761 (by decide +kernel) (by decide +kernel))
theorem kJ0_isLatin1_aae02_6 : am_dec cJ0_isLatin1_aae02 6 [.aload_n 0] 7 = true := by decide +kernel
theorem kJ0_isLatin1_aae02_13 : am_dec cJ0_isLatin1_aae02 13 [.iconst 1] 14 = true := by decide +kernel
theorem kJ0_isLatin1_aae02_17 : am_dec cJ0_isLatin1_aae02 17 [.iconst 0] 18 = true := by decide +kernel
theorem eJ0_isLatin1_aae02_0 : decode cJ0_isLatin1_aae02 0 = .ok (.getstatic 38, 3) := by decide +kernel
theorem eJ0_isLatin1_aae02_3 : decode cJ0_isLatin1_aae02 3 = .ok (.ifCond .eq 14, 3) := by decide +kernel
theorem eJ0_isLatin1_aae02_7 : decode cJ0_isLatin1_aae02 7 = .ok (.getfield 15, 3) := by decide +kernel
theorem eJ0_isLatin1_aae02_10 : decode cJ0_isLatin1_aae02 10 = .ok (.ifCond .ne 7, 3) := by decide +kernel
theorem eJ0_isLatin1_aae02_14 : decode cJ0_isLatin1_aae02 14 = .ok (.goto 4, 3) := by decide +kernel
theorem eJ0_isLatin1_aae02_18 : decode cJ0_isLatin1_aae02 18 = .ok (.ireturn, 1) := by decide +kernel
def yJ0_checkIndex_df160 : MethodName := ⟨RJ0, "checkIndex", "(II)V"⟩
abbrev cJ0_checkIndex_df160 : ByteArray := prog_30_method_155_code
abbrev m_J0_checkIndex_df160 : YR := (yJ0_checkIndex_df160, cJ0_checkIndex_df160, 2, (none : Option FieldType), [])
theorem wf_J0_checkIndex_df160 : am_wf m_J0_checkIndex_df160 := ⟨(am_gw 768 (by decide +kernel) (by decide +kernel)), by decide +kernel⟩
theorem im_J0_checkIndex_df160 : Cond.static yJ0_checkIndex_df160 ∈ GW := (am_gw 767 (by decide +kernel) (by decide +kernel))
theorem lk_J0_checkIndex_df160 : am_lk m_J0_checkIndex_df160 2 := ⟨wf_J0_checkIndex_df160, rfl, in_RJ0, ⟨by decide +kernel, by decide +kernel⟩, by decide +kernel, by decide⟩
theorem kJ0_checkIndex_df160_0 : am_dec cJ0_checkIndex_df160 0 [.iload_n 0, .iload_n 1] 2 = true := by decide +kernel
theorem kJ0_checkIndex_df160_8 : am_dec cJ0_checkIndex_df160 8 [.pop] 9 = true := by decide +kernel
theorem eJ0_checkIndex_df160_2 : decode cJ0_checkIndex_df160 2 = .ok (.getstatic 1053, 3) := by decide +kernel
theorem eJ0_checkIndex_df160_5 : decode cJ0_checkIndex_df160 5 = .ok (.invokestatic 1059, 3) := by decide +kernel
theorem eJ0_checkIndex_df160_9 : decode cJ0_checkIndex_df160 9 = .ok (.return_, 1) := by decide +kernel
def yJ1_charAt_3b067 : MethodName := ⟨RJ1, "charAt", "([BI)C"⟩
abbrev cJ1_charAt_3b067 : ByteArray := prog_32_method_2_code
abbrev m_J1_charAt_3b067 : YR := (yJ1_charAt_3b067, cJ1_charAt_3b067, 2, (some FieldType.char), [])
theorem wf_J1_charAt_3b067 : am_wf m_J1_charAt_3b067 := ⟨(am_gw 765 (by decide +kernel) (by decide +kernel)), by decide +kernel⟩
theorem im_J1_charAt_3b067 : Cond.static yJ1_charAt_3b067 ∈ GW := (am_gw 764 (by decide +kernel) (by decide +kernel))
theorem lk_J1_charAt_3b067 : am_lk m_J1_charAt_3b067 2 := ⟨wf_J1_charAt_3b067, rfl, in_RJ1, ⟨by decide +kernel, by decide +kernel⟩, by decide +kernel, by decide⟩
theorem kJ1_charAt_3b067_0 : am_dec cJ1_charAt_3b067 0 [.iload_n 1, .aload_n 0] 2 = true := by decide +kernel
theorem kJ1_charAt_3b067_6 : am_dec cJ1_charAt_3b067 6 [.aload_n 0, .iload_n 1] 8 = true := by decide +kernel
theorem kJ1_charAt_3b067_9 : am_dec cJ1_charAt_3b067 9 [.sipush 255] 12 = true := by decide +kernel
theorem eJ1_charAt_3b067_2 : decode cJ1_charAt_3b067 2 = .ok (.arraylength, 1) := by decide +kernel
theorem eJ1_charAt_3b067_3 : decode cJ1_charAt_3b067 3 = .ok (.invokestatic 9, 3) := by decide +kernel
theorem eJ1_charAt_3b067_8 : decode cJ1_charAt_3b067 8 = .ok (.baload, 1) := by decide +kernel
theorem eJ1_charAt_3b067_12 : decode cJ1_charAt_3b067 12 = .ok (.iand, 1) := by decide +kernel
theorem eJ1_charAt_3b067_13 : decode cJ1_charAt_3b067 13 = .ok (.i2c, 1) := by decide +kernel
theorem eJ1_charAt_3b067_14 : decode cJ1_charAt_3b067 14 = .ok (.ireturn, 1) := by decide +kernel
def yJ3_checkIndex_8e157 : MethodName := ⟨RJ3, "checkIndex", "(IILjava/util/function/BiFunction;)I"⟩
abbrev cJ3_checkIndex_8e157 : ByteArray := prog_41_method_11_code
abbrev m_J3_checkIndex_8e157 : YR := (yJ3_checkIndex_8e157, cJ3_checkIndex_8e157, 3, (some FieldType.int), [])
theorem wf_J3_checkIndex_8e157 : am_wf m_J3_checkIndex_8e157 := ⟨(am_gw 773 (by decide +kernel) (by decide +kernel)), by decide +kernel⟩
theorem im_J3_checkIndex_8e157 : Cond.static yJ3_checkIndex_8e157 ∈ GW := (am_gw 772 (by decide +kernel) (by decide +kernel))
theorem lk_J3_checkIndex_8e157 : am_lk m_J3_checkIndex_8e157 3 := ⟨wf_J3_checkIndex_8e157, rfl, in_RJ3, ⟨by decide +kernel, by decide +kernel⟩, by decide +kernel, by decide⟩
theorem kJ3_checkIndex_8e157_0 : am_dec cJ3_checkIndex_8e157 0 [.iload_n 0] 1 = true := by decide +kernel
theorem kJ3_checkIndex_8e157_4 : am_dec cJ3_checkIndex_8e157 4 [.iload_n 0, .iload_n 1] 6 = true := by decide +kernel
theorem kJ3_checkIndex_8e157_9 : am_dec cJ3_checkIndex_8e157 9 [.aload_n 2, .iload_n 0, .iload_n 1] 12 = true := by decide +kernel
theorem kJ3_checkIndex_8e157_16 : am_dec cJ3_checkIndex_8e157 16 [.iload_n 0] 17 = true := by decide +kernel
theorem eJ3_checkIndex_8e157_1 : decode cJ3_checkIndex_8e157 1 = .ok (.ifCond .lt 8, 3) := by decide +kernel
theorem eJ3_checkIndex_8e157_6 : decode cJ3_checkIndex_8e157 6 = .ok (.if_icmp .lt 10, 3) := by decide +kernel
theorem eJ3_checkIndex_8e157_12 : decode cJ3_checkIndex_8e157 12 = .ok (.invokestatic 95, 3) := by decide +kernel
theorem eJ3_checkIndex_8e157_15 : decode cJ3_checkIndex_8e157 15 = .ok (.athrow, 1) := by decide +kernel
theorem eJ3_checkIndex_8e157_17 : decode cJ3_checkIndex_8e157 17 = .ok (.ireturn, 1) := by decide +kernel
def yJ6_getChars_ba4f3 : MethodName := ⟨RJ6, "getChars", "(II[B)I"⟩
abbrev cJ6_getChars_ba4f3 : ByteArray := prog_26_method_12_code
abbrev m_J6_getChars_ba4f3 : YR := (yJ6_getChars_ba4f3, cJ6_getChars_ba4f3, 7, (some FieldType.int), [])
theorem wf_J6_getChars_ba4f3 : am_wf m_J6_getChars_ba4f3 := ⟨(am_gw 1416 (by decide +kernel) (by decide +kernel)), by decide +kernel⟩
theorem im_J6_getChars_ba4f3 : Cond.static yJ6_getChars_ba4f3 ∈ GW := (am_gw 1415 (by decide +kernel) (by decide +kernel))
theorem lk_J6_getChars_ba4f3 : am_lk m_J6_getChars_ba4f3 3 := ⟨wf_J6_getChars_ba4f3, rfl, in_RJ6, ⟨by decide +kernel, by decide +kernel⟩, by decide +kernel, by decide⟩
theorem kJ6_getChars_ba4f3_0 : am_dec cJ6_getChars_ba4f3 0 [.iload_n 1, .istore 5, .iload_n 0] 4 = true := by decide +kernel
theorem kJ6_getChars_ba4f3_7 : am_dec cJ6_getChars_ba4f3 7 [.iconst 1] 8 = true := by decide +kernel
theorem kJ6_getChars_ba4f3_11 : am_dec cJ6_getChars_ba4f3 11 [.iconst 0] 12 = true := by decide +kernel
theorem kJ6_getChars_ba4f3_12 : am_dec cJ6_getChars_ba4f3 12 [.istore 6, .iload 6] 16 = true := by decide +kernel
theorem kJ6_getChars_ba4f3_19 : am_dec cJ6_getChars_ba4f3 19 [.iload_n 0, .ineg, .istore_n 0] 22 = true := by decide +kernel
theorem kJ6_getChars_ba4f3_22 : am_dec cJ6_getChars_ba4f3 22 [.iload_n 0, .bipush (-100)] 25 = true := by decide +kernel
theorem kJ6_getChars_ba4f3_28 : am_dec cJ6_getChars_ba4f3 28 [.iload_n 0, .bipush 100] 31 = true := by decide +kernel
theorem kJ6_getChars_ba4f3_32 : am_dec cJ6_getChars_ba4f3 32 [.istore_n 3, .iload_n 3, .bipush 100, .imul, .iload_n 0, .isub, .istore 4, .iload_n 3, .istore_n 0, .aload_n 2, .iinc 5 (-1), .iload 5] 49 = true := by decide +kernel
theorem kJ6_getChars_ba4f3_52 : am_dec cJ6_getChars_ba4f3 52 [.iload 4] 54 = true := by decide +kernel
theorem kJ6_getChars_ba4f3_56 : am_dec cJ6_getChars_ba4f3 56 [.aload_n 2, .iinc 5 (-1), .iload 5] 62 = true := by decide +kernel
theorem kJ6_getChars_ba4f3_65 : am_dec cJ6_getChars_ba4f3 65 [.iload 4] 67 = true := by decide +kernel
theorem kJ6_getChars_ba4f3_72 : am_dec cJ6_getChars_ba4f3 72 [.aload_n 2, .iinc 5 (-1), .iload 5] 78 = true := by decide +kernel
theorem kJ6_getChars_ba4f3_81 : am_dec cJ6_getChars_ba4f3 81 [.iload_n 0, .ineg] 83 = true := by decide +kernel
theorem kJ6_getChars_ba4f3_85 : am_dec cJ6_getChars_ba4f3 85 [.iload_n 0, .bipush (-9)] 88 = true := by decide +kernel
theorem kJ6_getChars_ba4f3_91 : am_dec cJ6_getChars_ba4f3 91 [.aload_n 2, .iinc 5 (-1), .iload 5] 97 = true := by decide +kernel
theorem kJ6_getChars_ba4f3_100 : am_dec cJ6_getChars_ba4f3 100 [.iload_n 0, .ineg] 102 = true := by decide +kernel
theorem kJ6_getChars_ba4f3_104 : am_dec cJ6_getChars_ba4f3 104 [.iload 6] 106 = true := by decide +kernel
theorem kJ6_getChars_ba4f3_109 : am_dec cJ6_getChars_ba4f3 109 [.aload_n 2, .iinc 5 (-1), .iload 5, .bipush 45] 117 = true := by decide +kernel
theorem kJ6_getChars_ba4f3_118 : am_dec cJ6_getChars_ba4f3 118 [.iload 5] 120 = true := by decide +kernel
theorem eJ6_getChars_ba4f3_4 : decode cJ6_getChars_ba4f3 4 = .ok (.ifCond .ge 7, 3) := by decide +kernel
theorem eJ6_getChars_ba4f3_8 : decode cJ6_getChars_ba4f3 8 = .ok (.goto 4, 3) := by decide +kernel
theorem eJ6_getChars_ba4f3_16 : decode cJ6_getChars_ba4f3 16 = .ok (.ifCond .ne 6, 3) := by decide +kernel
theorem eJ6_getChars_ba4f3_25 : decode cJ6_getChars_ba4f3 25 = .ok (.if_icmp .gt 47, 3) := by decide +kernel
theorem eJ6_getChars_ba4f3_31 : decode cJ6_getChars_ba4f3 31 = .ok (.idiv, 1) := by decide +kernel
theorem eJ6_getChars_ba4f3_49 : decode cJ6_getChars_ba4f3 49 = .ok (.getstatic 83, 3) := by decide +kernel
theorem eJ6_getChars_ba4f3_54 : decode cJ6_getChars_ba4f3 54 = .ok (.baload, 1) := by decide +kernel
theorem eJ6_getChars_ba4f3_55 : decode cJ6_getChars_ba4f3 55 = .ok (.bastore, 1) := by decide +kernel
theorem eJ6_getChars_ba4f3_62 : decode cJ6_getChars_ba4f3 62 = .ok (.getstatic 87, 3) := by decide +kernel
theorem eJ6_getChars_ba4f3_67 : decode cJ6_getChars_ba4f3 67 = .ok (.baload, 1) := by decide +kernel
theorem eJ6_getChars_ba4f3_68 : decode cJ6_getChars_ba4f3 68 = .ok (.bastore, 1) := by decide +kernel
theorem eJ6_getChars_ba4f3_69 : decode cJ6_getChars_ba4f3 69 = .ok (.goto (-47), 3) := by decide +kernel
theorem eJ6_getChars_ba4f3_78 : decode cJ6_getChars_ba4f3 78 = .ok (.getstatic 83, 3) := by decide +kernel
theorem eJ6_getChars_ba4f3_83 : decode cJ6_getChars_ba4f3 83 = .ok (.baload, 1) := by decide +kernel
theorem eJ6_getChars_ba4f3_84 : decode cJ6_getChars_ba4f3 84 = .ok (.bastore, 1) := by decide +kernel
theorem eJ6_getChars_ba4f3_88 : decode cJ6_getChars_ba4f3 88 = .ok (.if_icmp .ge 16, 3) := by decide +kernel
theorem eJ6_getChars_ba4f3_97 : decode cJ6_getChars_ba4f3 97 = .ok (.getstatic 87, 3) := by decide +kernel
theorem eJ6_getChars_ba4f3_102 : decode cJ6_getChars_ba4f3 102 = .ok (.baload, 1) := by decide +kernel
theorem eJ6_getChars_ba4f3_103 : decode cJ6_getChars_ba4f3 103 = .ok (.bastore, 1) := by decide +kernel
theorem eJ6_getChars_ba4f3_106 : decode cJ6_getChars_ba4f3 106 = .ok (.ifCond .eq 12, 3) := by decide +kernel
theorem eJ6_getChars_ba4f3_117 : decode cJ6_getChars_ba4f3 117 = .ok (.bastore, 1) := by decide +kernel
theorem eJ6_getChars_ba4f3_120 : decode cJ6_getChars_ba4f3 120 = .ok (.ireturn, 1) := by decide +kernel
def yJ6_stringSize_0f7a4 : MethodName := ⟨RJ6, "stringSize", "(I)I"⟩
abbrev cJ6_stringSize_0f7a4 : ByteArray := prog_26_method_13_code
abbrev m_J6_stringSize_0f7a4 : YR := (yJ6_stringSize_0f7a4, cJ6_stringSize_0f7a4, 4, (some FieldType.int), [])
theorem wf_J6_stringSize_0f7a4 : am_wf m_J6_stringSize_0f7a4 := ⟨(am_gw 1413 (by decide +kernel) (by decide +kernel)), by decide +kernel⟩
theorem im_J6_stringSize_0f7a4 : Cond.static yJ6_stringSize_0f7a4 ∈ GW := (am_gw 1412 (by decide +kernel) (by decide +kernel))
theorem lk_J6_stringSize_0f7a4 : am_lk m_J6_stringSize_0f7a4 1 := ⟨wf_J6_stringSize_0f7a4, rfl, in_RJ6, ⟨by decide +kernel, by decide +kernel⟩, by decide +kernel, by decide⟩
theorem kJ6_stringSize_0f7a4_0 : am_dec cJ6_stringSize_0f7a4 0 [.iconst 1, .istore_n 1, .iload_n 0] 3 = true := by decide +kernel
theorem kJ6_stringSize_0f7a4_6 : am_dec cJ6_stringSize_0f7a4 6 [.iconst 0, .istore_n 1, .iload_n 0, .ineg, .istore_n 0] 11 = true := by decide +kernel
theorem kJ6_stringSize_0f7a4_11 : am_dec cJ6_stringSize_0f7a4 11 [.bipush (-10), .istore_n 2, .iconst 1, .istore_n 3] 16 = true := by decide +kernel
theorem kJ6_stringSize_0f7a4_16 : am_dec cJ6_stringSize_0f7a4 16 [.iload_n 3, .bipush 10] 19 = true := by decide +kernel
theorem kJ6_stringSize_0f7a4_22 : am_dec cJ6_stringSize_0f7a4 22 [.iload_n 0, .iload_n 2] 24 = true := by decide +kernel
theorem kJ6_stringSize_0f7a4_27 : am_dec cJ6_stringSize_0f7a4 27 [.iload_n 3, .iload_n 1, .iadd] 30 = true := by decide +kernel
theorem kJ6_stringSize_0f7a4_31 : am_dec cJ6_stringSize_0f7a4 31 [.bipush 10, .iload_n 2, .imul, .istore_n 2, .iinc 3 1] 39 = true := by decide +kernel
theorem kJ6_stringSize_0f7a4_42 : am_dec cJ6_stringSize_0f7a4 42 [.bipush 10, .iload_n 1, .iadd] 46 = true := by decide +kernel
theorem eJ6_stringSize_0f7a4_3 : decode cJ6_stringSize_0f7a4 3 = .ok (.ifCond .lt 8, 3) := by decide +kernel
theorem eJ6_stringSize_0f7a4_19 : decode cJ6_stringSize_0f7a4 19 = .ok (.if_icmp .ge 23, 3) := by decide +kernel
theorem eJ6_stringSize_0f7a4_24 : decode cJ6_stringSize_0f7a4 24 = .ok (.if_icmp .le 7, 3) := by decide +kernel
theorem eJ6_stringSize_0f7a4_30 : decode cJ6_stringSize_0f7a4 30 = .ok (.ireturn, 1) := by decide +kernel
theorem eJ6_stringSize_0f7a4_39 : decode cJ6_stringSize_0f7a4 39 = .ok (.goto (-23), 3) := by decide +kernel
theorem eJ6_stringSize_0f7a4_46 : decode cJ6_stringSize_0f7a4 46 = .ok (.ireturn, 1) := by decide +kernel
def yJ7_copyOf_9075b : MethodName := ⟨RJ7, "copyOf", "([BI)[B"⟩
abbrev cJ7_copyOf_9075b : ByteArray := prog_38_method_121_code
abbrev m_J7_copyOf_9075b : YR := (yJ7_copyOf_9075b, cJ7_copyOf_9075b, 3, (some (FieldType.array FieldType.byte)), [])
theorem wf_J7_copyOf_9075b : am_wf m_J7_copyOf_9075b := ⟨(am_gw 1343 (by decide +kernel) (by decide +kernel)), by decide +kernel⟩
theorem im_J7_copyOf_9075b : Cond.static yJ7_copyOf_9075b ∈ GW := (am_gw 1342 (by decide +kernel) (by decide +kernel))
theorem lk_J7_copyOf_9075b : am_lk m_J7_copyOf_9075b 2 := ⟨wf_J7_copyOf_9075b, rfl, in_RJ7, ⟨by decide +kernel, by decide +kernel⟩, by decide +kernel, by decide⟩
theorem kJ7_copyOf_9075b_0 : am_dec cJ7_copyOf_9075b 0 [.iload_n 1, .aload_n 0] 2 = true := by decide +kernel
theorem kJ7_copyOf_9075b_6 : am_dec cJ7_copyOf_9075b 6 [.aload_n 0] 7 = true := by decide +kernel
theorem kJ7_copyOf_9075b_14 : am_dec cJ7_copyOf_9075b 14 [.iload_n 1] 15 = true := by decide +kernel
theorem kJ7_copyOf_9075b_17 : am_dec cJ7_copyOf_9075b 17 [.astore_n 2, .aload_n 0, .iconst 0, .aload_n 2, .iconst 0, .aload_n 0] 23 = true := by decide +kernel
theorem kJ7_copyOf_9075b_24 : am_dec cJ7_copyOf_9075b 24 [.iload_n 1] 25 = true := by decide +kernel
theorem kJ7_copyOf_9075b_31 : am_dec cJ7_copyOf_9075b 31 [.aload_n 2] 32 = true := by decide +kernel
theorem eJ7_copyOf_9075b_2 : decode cJ7_copyOf_9075b 2 = .ok (.arraylength, 1) := by decide +kernel
theorem eJ7_copyOf_9075b_3 : decode cJ7_copyOf_9075b 3 = .ok (.if_icmp .ne 11, 3) := by decide +kernel
theorem eJ7_copyOf_9075b_7 : decode cJ7_copyOf_9075b 7 = .ok (.invokevirtual 310, 3) := by decide +kernel
theorem eJ7_copyOf_9075b_10 : decode cJ7_copyOf_9075b 10 = .ok (.checkcast 311, 3) := by decide +kernel
theorem eJ7_copyOf_9075b_13 : decode cJ7_copyOf_9075b 13 = .ok (.areturn, 1) := by decide +kernel
theorem eJ7_copyOf_9075b_15 : decode cJ7_copyOf_9075b 15 = .ok (.newarray .byte, 2) := by decide +kernel
theorem eJ7_copyOf_9075b_23 : decode cJ7_copyOf_9075b 23 = .ok (.arraylength, 1) := by decide +kernel
theorem eJ7_copyOf_9075b_25 : decode cJ7_copyOf_9075b 25 = .ok (.invokestatic 304, 3) := by decide +kernel
theorem eJ7_copyOf_9075b_28 : decode cJ7_copyOf_9075b 28 = .ok (.invokestatic 150, 3) := by decide +kernel
theorem eJ7_copyOf_9075b_32 : decode cJ7_copyOf_9075b 32 = .ok (.areturn, 1) := by decide +kernel
def yJ7_copyOfRange_39247 : MethodName := ⟨RJ7, "copyOfRange", "([BII)[B"⟩
abbrev cJ7_copyOfRange_39247 : ByteArray := prog_38_method_132_code
abbrev m_J7_copyOfRange_39247 : YR := (yJ7_copyOfRange_39247, cJ7_copyOfRange_39247, 3, (some (FieldType.array FieldType.byte)), [])
theorem wf_J7_copyOfRange_39247 : am_wf m_J7_copyOfRange_39247 := ⟨(am_gw 1458 (by decide +kernel) (by decide +kernel)), by decide +kernel⟩
theorem im_J7_copyOfRange_39247 : Cond.static yJ7_copyOfRange_39247 ∈ GW := (am_gw 1457 (by decide +kernel) (by decide +kernel))
theorem lk_J7_copyOfRange_39247 : am_lk m_J7_copyOfRange_39247 3 := ⟨wf_J7_copyOfRange_39247, rfl, in_RJ7, ⟨by decide +kernel, by decide +kernel⟩, by decide +kernel, by decide⟩
theorem kJ7_copyOfRange_39247_0 : am_dec cJ7_copyOfRange_39247 0 [.iload_n 1] 1 = true := by decide +kernel
theorem kJ7_copyOfRange_39247_4 : am_dec cJ7_copyOfRange_39247 4 [.iload_n 2, .aload_n 0] 6 = true := by decide +kernel
theorem kJ7_copyOfRange_39247_10 : am_dec cJ7_copyOfRange_39247 10 [.aload_n 0, .iload_n 1, .iload_n 2] 13 = true := by decide +kernel
theorem kJ7_copyOfRange_39247_17 : am_dec cJ7_copyOfRange_39247 17 [.aload_n 0] 18 = true := by decide +kernel
theorem eJ7_copyOfRange_39247_1 : decode cJ7_copyOfRange_39247 1 = .ok (.ifCond .ne 9, 3) := by decide +kernel
theorem eJ7_copyOfRange_39247_6 : decode cJ7_copyOfRange_39247 6 = .ok (.arraylength, 1) := by decide +kernel
theorem eJ7_copyOfRange_39247_7 : decode cJ7_copyOfRange_39247 7 = .ok (.if_icmp .eq 10, 3) := by decide +kernel
theorem eJ7_copyOfRange_39247_13 : decode cJ7_copyOfRange_39247 13 = .ok (.invokestatic 339, 3) := by decide +kernel
theorem eJ7_copyOfRange_39247_16 : decode cJ7_copyOfRange_39247 16 = .ok (.areturn, 1) := by decide +kernel
theorem eJ7_copyOfRange_39247_18 : decode cJ7_copyOfRange_39247 18 = .ok (.invokevirtual 310, 3) := by decide +kernel
theorem eJ7_copyOfRange_39247_21 : decode cJ7_copyOfRange_39247 21 = .ok (.checkcast 311, 3) := by decide +kernel
theorem eJ7_copyOfRange_39247_24 : decode cJ7_copyOfRange_39247 24 = .ok (.areturn, 1) := by decide +kernel
def yJ7_copyOfRangeByte_39247 : MethodName := ⟨RJ7, "copyOfRangeByte", "([BII)[B"⟩
abbrev cJ7_copyOfRangeByte_39247 : ByteArray := prog_38_method_133_code
abbrev m_J7_copyOfRangeByte_39247 : YR := (yJ7_copyOfRangeByte_39247, cJ7_copyOfRangeByte_39247, 5, (some (FieldType.array FieldType.byte)), [])
theorem wf_J7_copyOfRangeByte_39247 : am_wf m_J7_copyOfRangeByte_39247 := ⟨(am_gw 1461 (by decide +kernel) (by decide +kernel)), by decide +kernel⟩
theorem im_J7_copyOfRangeByte_39247 : Cond.static yJ7_copyOfRangeByte_39247 ∈ GW := (am_gw 1460 (by decide +kernel) (by decide +kernel))
theorem lk_J7_copyOfRangeByte_39247 : am_lk m_J7_copyOfRangeByte_39247 3 := ⟨wf_J7_copyOfRangeByte_39247, rfl, in_RJ7, ⟨by decide +kernel, by decide +kernel⟩, by decide +kernel, by decide⟩
theorem kJ7_copyOfRangeByte_39247_0 : am_dec cJ7_copyOfRangeByte_39247 0 [.iload_n 1, .iload_n 2] 2 = true := by decide +kernel
theorem kJ7_copyOfRangeByte_39247_5 : am_dec cJ7_copyOfRangeByte_39247 5 [.iload_n 2, .iload_n 1, .isub, .istore_n 3, .iload_n 3] 10 = true := by decide +kernel
theorem kJ7_copyOfRangeByte_39247_12 : am_dec cJ7_copyOfRangeByte_39247 12 [.astore 4, .aload_n 0, .iload_n 1, .aload 4, .iconst 0, .aload_n 0] 20 = true := by decide +kernel
theorem kJ7_copyOfRangeByte_39247_21 : am_dec cJ7_copyOfRangeByte_39247 21 [.iload_n 1, .isub, .iload_n 3] 24 = true := by decide +kernel
theorem kJ7_copyOfRangeByte_39247_30 : am_dec cJ7_copyOfRangeByte_39247 30 [.aload 4] 32 = true := by decide +kernel
theorem eJ7_copyOfRangeByte_39247_2 : decode cJ7_copyOfRangeByte_39247 2 = .ok (.invokestatic 343, 3) := by decide +kernel
theorem eJ7_copyOfRangeByte_39247_10 : decode cJ7_copyOfRangeByte_39247 10 = .ok (.newarray .byte, 2) := by decide +kernel
theorem eJ7_copyOfRangeByte_39247_20 : decode cJ7_copyOfRangeByte_39247 20 = .ok (.arraylength, 1) := by decide +kernel
theorem eJ7_copyOfRangeByte_39247_24 : decode cJ7_copyOfRangeByte_39247 24 = .ok (.invokestatic 304, 3) := by decide +kernel
theorem eJ7_copyOfRangeByte_39247_27 : decode cJ7_copyOfRangeByte_39247 27 = .ok (.invokestatic 150, 3) := by decide +kernel
theorem eJ7_copyOfRangeByte_39247_32 : decode cJ7_copyOfRangeByte_39247 32 = .ok (.areturn, 1) := by decide +kernel
def yJ7_checkLength_df160 : MethodName := ⟨RJ7, "checkLength", "(II)V"⟩
abbrev cJ7_checkLength_df160 : ByteArray := prog_38_method_131_code
abbrev m_J7_checkLength_df160 : YR := (yJ7_checkLength_df160, cJ7_checkLength_df160, 2, (none : Option FieldType), [])
theorem wf_J7_checkLength_df160 : am_wf m_J7_checkLength_df160 := ⟨(am_gw 1464 (by decide +kernel) (by decide +kernel)), by decide +kernel⟩
theorem im_J7_checkLength_df160 : Cond.static yJ7_checkLength_df160 ∈ GW := (am_gw 1463 (by decide +kernel) (by decide +kernel))
theorem lk_J7_checkLength_df160 : am_lk m_J7_checkLength_df160 2 := ⟨wf_J7_checkLength_df160, rfl, in_RJ7, ⟨by decide +kernel, by decide +kernel⟩, by decide +kernel, by decide⟩
theorem kJ7_checkLength_df160_0 : am_dec cJ7_checkLength_df160 0 [.iload_n 1, .iload_n 0] 2 = true := by decide +kernel
theorem kJ7_checkLength_df160_8 : am_dec cJ7_checkLength_df160 8 [.dup] 9 = true := by decide +kernel
theorem kJ7_checkLength_df160_12 : am_dec cJ7_checkLength_df160 12 [.dup] 13 = true := by decide +kernel
theorem kJ7_checkLength_df160_16 : am_dec cJ7_checkLength_df160 16 [.iload_n 0] 17 = true := by decide +kernel
theorem kJ7_checkLength_df160_26 : am_dec cJ7_checkLength_df160 26 [.iload_n 1] 27 = true := by decide +kernel
theorem eJ7_checkLength_df160_2 : decode cJ7_checkLength_df160 2 = .ok (.if_icmp .ge 35, 3) := by decide +kernel
theorem eJ7_checkLength_df160_5 : decode cJ7_checkLength_df160 5 = .ok (.new 43, 3) := by decide +kernel
theorem eJ7_checkLength_df160_9 : decode cJ7_checkLength_df160 9 = .ok (.new 45, 3) := by decide +kernel
theorem eJ7_checkLength_df160_13 : decode cJ7_checkLength_df160 13 = .ok (.invokespecial 47, 3) := by decide +kernel
theorem eJ7_checkLength_df160_17 : decode cJ7_checkLength_df160 17 = .ok (.invokevirtual 54, 3) := by decide +kernel
theorem eJ7_checkLength_df160_20 : decode cJ7_checkLength_df160 20 = .ok (.ldc_w 337, 3) := by decide +kernel
theorem eJ7_checkLength_df160_23 : decode cJ7_checkLength_df160 23 = .ok (.invokevirtual 50, 3) := by decide +kernel
theorem eJ7_checkLength_df160_27 : decode cJ7_checkLength_df160 27 = .ok (.invokevirtual 54, 3) := by decide +kernel
theorem eJ7_checkLength_df160_30 : decode cJ7_checkLength_df160 30 = .ok (.invokevirtual 61, 3) := by decide +kernel
theorem eJ7_checkLength_df160_33 : decode cJ7_checkLength_df160 33 = .ok (.invokespecial 65, 3) := by decide +kernel
theorem eJ7_checkLength_df160_36 : decode cJ7_checkLength_df160 36 = .ok (.athrow, 1) := by decide +kernel
theorem eJ7_checkLength_df160_37 : decode cJ7_checkLength_df160 37 = .ok (.return_, 1) := by decide +kernel
def yJ8_newLength_cabcc : MethodName := ⟨RJ8, "newLength", "(III)I"⟩
abbrev cJ8_newLength_cabcc : ByteArray := prog_40_method_27_code
abbrev m_J8_newLength_cabcc : YR := (yJ8_newLength_cabcc, cJ8_newLength_cabcc, 4, (some FieldType.int), [])
theorem wf_J8_newLength_cabcc : am_wf m_J8_newLength_cabcc := ⟨(am_gw 1334 (by decide +kernel) (by decide +kernel)), by decide +kernel⟩
theorem im_J8_newLength_cabcc : Cond.static yJ8_newLength_cabcc ∈ GW := (am_gw 1333 (by decide +kernel) (by decide +kernel))
theorem lk_J8_newLength_cabcc : am_lk m_J8_newLength_cabcc 3 := ⟨wf_J8_newLength_cabcc, rfl, in_RJ8, ⟨by decide +kernel, by decide +kernel⟩, by decide +kernel, by decide⟩
theorem kJ8_newLength_cabcc_0 : am_dec cJ8_newLength_cabcc 0 [.iload_n 0, .iload_n 1, .iload_n 2] 3 = true := by decide +kernel
theorem kJ8_newLength_cabcc_6 : am_dec cJ8_newLength_cabcc 6 [.iadd, .istore_n 3, .iconst 0, .iload_n 3] 10 = true := by decide +kernel
theorem kJ8_newLength_cabcc_13 : am_dec cJ8_newLength_cabcc 13 [.iload_n 3] 14 = true := by decide +kernel
theorem kJ8_newLength_cabcc_19 : am_dec cJ8_newLength_cabcc 19 [.iload_n 3] 20 = true := by decide +kernel
theorem kJ8_newLength_cabcc_21 : am_dec cJ8_newLength_cabcc 21 [.iload_n 0, .iload_n 1] 23 = true := by decide +kernel
theorem eJ8_newLength_cabcc_3 : decode cJ8_newLength_cabcc 3 = .ok (.invokestatic 194, 3) := by decide +kernel
theorem eJ8_newLength_cabcc_10 : decode cJ8_newLength_cabcc 10 = .ok (.if_icmp .ge 11, 3) := by decide +kernel
theorem eJ8_newLength_cabcc_14 : decode cJ8_newLength_cabcc 14 = .ok (.ldc 200, 2) := by decide +kernel
theorem eJ8_newLength_cabcc_16 : decode cJ8_newLength_cabcc 16 = .ok (.if_icmp .gt 5, 3) := by decide +kernel
theorem eJ8_newLength_cabcc_20 : decode cJ8_newLength_cabcc 20 = .ok (.ireturn, 1) := by decide +kernel
theorem eJ8_newLength_cabcc_23 : decode cJ8_newLength_cabcc 23 = .ok (.invokestatic 201, 3) := by decide +kernel
theorem eJ8_newLength_cabcc_26 : decode cJ8_newLength_cabcc 26 = .ok (.ireturn, 1) := by decide +kernel
theorem lk_RJ4_1 : am_lkI RJ4 1 m_J5_init_d00df 1 := ⟨lk_J5_init_d00df, rfl, Or.inl (am_gw 1287 (by decide +kernel) (by decide +kernel)), by decide +kernel, im_J5_init_d00df⟩
theorem lk_RJ4_29 : am_lkZ RJ4 29 m_J5_append_cf1ce 1 := ⟨⟨wf_J5_append_cf1ce, rfl, in_RJ5, by decide +kernel, by decide⟩, (am_gw 1317 (by decide +kernel) (by decide +kernel)), (am_gw 1590 (by decide +kernel) (by decide +kernel)), (am_gw 1311 (by decide +kernel) (by decide +kernel)), im_J5_append_cf1ce, by decide⟩
theorem lk_RJ4_53 : am_lkZ RJ4 53 m_J5_append_c97b9 1 := ⟨⟨wf_J5_append_c97b9, rfl, in_RJ5, by decide +kernel, by decide⟩, (am_gw 1408 (by decide +kernel) (by decide +kernel)), (am_gw 1597 (by decide +kernel) (by decide +kernel)), (am_gw 1311 (by decide +kernel) (by decide +kernel)), im_J5_append_c97b9, by decide⟩
theorem lk_RJ4_137 : am_lkI RJ4 137 m_J0_init_81219 1 := ⟨lk_J0_init_81219, rfl, Or.inl (am_gw 1435 (by decide +kernel) (by decide +kernel)), by decide +kernel, im_J0_init_81219⟩
theorem lk_RJ4_343 : am_lkZ RJ4 343 m_J5_length_8abf5 0 := ⟨⟨wf_J5_length_8abf5, rfl, in_RJ5, by decide +kernel, by decide⟩, (am_gw 1453 (by decide +kernel) (by decide +kernel)), (am_gw 1449 (by decide +kernel) (by decide +kernel)), (am_gw 1311 (by decide +kernel) (by decide +kernel)), im_J5_length_8abf5, by decide⟩
theorem lk_RJ5_32 : am_lkV RJ5 32 m_J0_length_8abf5 0 := ⟨lk_J0_length_8abf5, (am_gw 1369 (by decide +kernel) (by decide +kernel)), im_J0_length_8abf5, sl_J0_length_8abf5⟩
theorem lk_RJ5_100 : am_lkU RJ5 100 yJ5_ensureCapacityInternal_d00df m_J5_ensureCapacityInternal_d00df 1 := ⟨⟨wf_J5_ensureCapacityInternal_d00df, rfl, in_RJ5, by decide +kernel, by decide⟩, (am_gw 1324 (by decide +kernel) (by decide +kernel)), (am_gw 1592 (by decide +kernel) (by decide +kernel)), ⟨(am_gw 1326 (by decide +kernel) (by decide +kernel)), prog_17_method_9_code, 3, (none : Option FieldType), (am_gw 1327 (by decide +kernel) (by decide +kernel))⟩, im_J5_ensureCapacityInternal_d00df, Or.inr ⟨rfl, ⟨by decide, by decide⟩, (am_nw 1325 (by decide +kernel) (by decide +kernel)), ⟨"java/lang/AbstractStringBuilder", "isLatin1", "()Z"⟩, ⟨"java/lang/AbstractStringBuilder", "isLatin1", "()Z"⟩, rfl, (am_gw 1352 (by decide +kernel) (by decide +kernel))⟩⟩
theorem lk_RJ5_208 : am_lkU RJ5 208 yJ5_putStringAt_47b60 m_J5_putStringAt_47b60 2 := ⟨⟨wf_J5_putStringAt_47b60, rfl, in_RJ5, by decide +kernel, by decide⟩, (am_gw 1370 (by decide +kernel) (by decide +kernel)), (am_gw 1594 (by decide +kernel) (by decide +kernel)), ⟨(am_gw 1372 (by decide +kernel) (by decide +kernel)), prog_17_method_73_code, 3, (none : Option FieldType), (am_gw 1373 (by decide +kernel) (by decide +kernel))⟩, im_J5_putStringAt_47b60, Or.inr ⟨rfl, ⟨by decide, by decide⟩, (am_nw 1371 (by decide +kernel) (by decide +kernel)), ⟨"java/lang/AbstractStringBuilder", "isLatin1", "()Z"⟩, ⟨"java/lang/AbstractStringBuilder", "isLatin1", "()Z"⟩, rfl, (am_gw 1352 (by decide +kernel) (by decide +kernel))⟩⟩
theorem lk_RJ5_245 : am_lkS RJ5 245 m_J6_stringSize_0f7a4 1 := ⟨lk_J6_stringSize_0f7a4, (am_gw 1411 (by decide +kernel) (by decide +kernel)), im_J6_stringSize_0f7a4⟩
theorem lk_RJ5_83 : am_lkU RJ5 83 yJ5_isLatin1_aae02 m_J5_isLatin1_aae02 0 := ⟨⟨wf_J5_isLatin1_aae02, rfl, in_RJ5, by decide +kernel, by decide⟩, (am_gw 1349 (by decide +kernel) (by decide +kernel)), (am_gw 1351 (by decide +kernel) (by decide +kernel)), ⟨(am_gw 1350 (by decide +kernel) (by decide +kernel)), prog_17_method_68_code, 1, (some FieldType.boolean), (am_gw 1353 (by decide +kernel) (by decide +kernel))⟩, im_J5_isLatin1_aae02, Or.inl (am_gw 1352 (by decide +kernel) (by decide +kernel))⟩
theorem lk_RJ5_248 : am_lkS RJ5 248 m_J6_getChars_ba4f3 3 := ⟨lk_J6_getChars_ba4f3, (am_gw 1414 (by decide +kernel) (by decide +kernel)), im_J6_getChars_ba4f3⟩
theorem lk_RJ5_104 : am_lkU RJ5 104 yJ5_newCapacity_0f7a4 m_J5_newCapacity_0f7a4 1 := ⟨⟨wf_J5_newCapacity_0f7a4, rfl, in_RJ5, by decide +kernel, by decide⟩, (am_gw 1328 (by decide +kernel) (by decide +kernel)), (am_gw 1593 (by decide +kernel) (by decide +kernel)), ⟨(am_gw 1330 (by decide +kernel) (by decide +kernel)), prog_17_method_10_code, 6, (some FieldType.int), (am_gw 1331 (by decide +kernel) (by decide +kernel))⟩, im_J5_newCapacity_0f7a4, Or.inr ⟨rfl, ⟨by decide, by decide⟩, (am_nw 1329 (by decide +kernel) (by decide +kernel)), ⟨"java/lang/AbstractStringBuilder", "isLatin1", "()Z"⟩, ⟨"java/lang/AbstractStringBuilder", "isLatin1", "()Z"⟩, rfl, (am_gw 1352 (by decide +kernel) (by decide +kernel))⟩⟩
theorem lk_RJ5_108 : am_lkS RJ5 108 m_J7_copyOf_9075b 2 := ⟨lk_J7_copyOf_9075b, (am_gw 1341 (by decide +kernel) (by decide +kernel)), im_J7_copyOf_9075b⟩
theorem lk_RJ5_114 : am_lkS RJ5 114 m_J8_newLength_cabcc 3 := ⟨lk_J8_newLength_cabcc, (am_gw 1332 (by decide +kernel) (by decide +kernel)), im_J8_newLength_cabcc⟩
theorem lk_RJ5_40 : am_lkV RJ5 40 m_J0_coder_7d493 0 := ⟨lk_J0_coder_7d493, (am_gw 1378 (by decide +kernel) (by decide +kernel)), im_J0_coder_7d493, sl_J0_coder_7d493⟩
theorem lk_RJ5_397 : am_lkU RJ5 397 yJ5_inflateIfNeededFor_a7421 m_J5_inflateIfNeededFor_a7421 1 := ⟨⟨wf_J5_inflateIfNeededFor_a7421, rfl, in_RJ5, by decide +kernel, by decide⟩, (am_gw 1374 (by decide +kernel) (by decide +kernel)), (am_gw 1595 (by decide +kernel) (by decide +kernel)), ⟨(am_gw 1376 (by decide +kernel) (by decide +kernel)), prog_17_method_71_code, 2, (none : Option FieldType), (am_gw 1377 (by decide +kernel) (by decide +kernel))⟩, im_J5_inflateIfNeededFor_a7421, Or.inr ⟨rfl, ⟨by decide, by decide⟩, (am_nw 1375 (by decide +kernel) (by decide +kernel)), ⟨"java/lang/AbstractStringBuilder", "isLatin1", "()Z"⟩, ⟨"java/lang/AbstractStringBuilder", "isLatin1", "()Z"⟩, rfl, (am_gw 1352 (by decide +kernel) (by decide +kernel))⟩⟩
theorem lk_RJ5_399 : am_lkV RJ5 399 m_J0_getBytes_840e7 3 := ⟨lk_J0_getBytes_840e7, (am_gw 1398 (by decide +kernel) (by decide +kernel)), im_J0_getBytes_840e7, sl_J0_getBytes_840e7⟩
theorem lk_RJ0_489 : am_lkI RJ0 489 m_J0_init_db425 2 := ⟨lk_J0_init_db425, rfl, Or.inl (am_gw 1438 (by decide +kernel) (by decide +kernel)), by decide +kernel, im_J0_init_db425⟩
theorem lk_RJ0_552 : am_lkU RJ0 552 yJ5_getValue_6d5f1 m_J5_getValue_6d5f1 0 := ⟨⟨wf_J5_getValue_6d5f1, rfl, in_RJ5, by decide +kernel, by decide⟩, (am_gw 1442 (by decide +kernel) (by decide +kernel)), (am_gw 1444 (by decide +kernel) (by decide +kernel)), ⟨(am_gw 1443 (by decide +kernel) (by decide +kernel)), prog_17_method_64_code, 1, (some (FieldType.array FieldType.byte)), (am_gw 1446 (by decide +kernel) (by decide +kernel))⟩, im_J5_getValue_6d5f1, Or.inl (am_gw 1445 (by decide +kernel) (by decide +kernel))⟩
theorem lk_RJ0_549 : am_lkU RJ0 549 yJ5_length_8abf5 m_J4_length_8abf5 0 := ⟨⟨wf_J4_length_8abf5, rfl, in_RJ4, by decide +kernel, by decide⟩, (am_gw 1447 (by decide +kernel) (by decide +kernel)), (am_gw 1449 (by decide +kernel) (by decide +kernel)), ⟨(am_gw 1448 (by decide +kernel) (by decide +kernel)), prog_17_method_6_code, 1, (some FieldType.int), (am_gw 1454 (by decide +kernel) (by decide +kernel))⟩, im_J4_length_8abf5, Or.inl (am_gw 1450 (by decide +kernel) (by decide +kernel))⟩
theorem lk_RJ0_1047 : am_lkU RJ0 1047 yJ5_isLatin1_aae02 m_J5_isLatin1_aae02 0 := ⟨⟨wf_J5_isLatin1_aae02, rfl, in_RJ5, by decide +kernel, by decide⟩, (am_gw 1455 (by decide +kernel) (by decide +kernel)), (am_gw 1351 (by decide +kernel) (by decide +kernel)), ⟨(am_gw 1350 (by decide +kernel) (by decide +kernel)), prog_17_method_68_code, 1, (some FieldType.boolean), (am_gw 1353 (by decide +kernel) (by decide +kernel))⟩, im_J5_isLatin1_aae02, Or.inl (am_gw 1352 (by decide +kernel) (by decide +kernel))⟩
theorem lk_RJ0_54 : am_lkS RJ0 54 m_J7_copyOfRange_39247 3 := ⟨lk_J7_copyOfRange_39247, (am_gw 1456 (by decide +kernel) (by decide +kernel)), im_J7_copyOfRange_39247⟩
theorem lk_RJ0_335 : am_lkV RJ0 335 m_J0_coder_7d493 0 := ⟨lk_J0_coder_7d493, (am_gw 749 (by decide +kernel) (by decide +kernel)), im_J0_coder_7d493, sl_J0_coder_7d493⟩
theorem lk_RJ0_492 : am_lkV RJ0 492 m_J0_isLatin1_aae02 0 := ⟨lk_J0_isLatin1_aae02, (am_gw 759 (by decide +kernel) (by decide +kernel)), im_J0_isLatin1_aae02, sl_J0_isLatin1_aae02⟩
theorem lk_RJ0_495 : am_lkS RJ0 495 m_J1_charAt_3b067 2 := ⟨lk_J1_charAt_3b067, (am_gw 763 (by decide +kernel) (by decide +kernel)), im_J1_charAt_3b067⟩
theorem lk_RJ0_1059 : am_lkS RJ0 1059 m_J3_checkIndex_8e157 3 := ⟨lk_J3_checkIndex_8e157, (am_gw 771 (by decide +kernel) (by decide +kernel)), im_J3_checkIndex_8e157⟩
theorem lk_RJ1_9 : am_lkS RJ1 9 m_J0_checkIndex_df160 2 := ⟨lk_J0_checkIndex_df160, (am_gw 766 (by decide +kernel) (by decide +kernel)), im_J0_checkIndex_df160⟩
theorem lk_RJ7_339 : am_lkS RJ7 339 m_J7_copyOfRangeByte_39247 3 := ⟨lk_J7_copyOfRangeByte_39247, (am_gw 1459 (by decide +kernel) (by decide +kernel)), im_J7_copyOfRangeByte_39247⟩
theorem lk_RJ7_343 : am_lkS RJ7 343 m_J7_checkLength_df160 2 := ⟨lk_J7_checkLength_df160, (am_gw 1462 (by decide +kernel) (by decide +kernel)), im_J7_checkLength_df160⟩
theorem lk_RJ7_47 : am_lkI RJ7 47 m_J4_init_da8c8 0 := ⟨lk_J4_init_da8c8, rfl, Or.inl (am_gw 1467 (by decide +kernel) (by decide +kernel)), by decide +kernel, im_J4_init_da8c8⟩
theorem lk_RJ7_54 : am_lkV RJ7 54 m_J4_append_bf812 1 := ⟨lk_J4_append_bf812, (am_gw 1468 (by decide +kernel) (by decide +kernel)), im_J4_append_bf812, sl_J4_append_bf812⟩
theorem lk_RJ7_50 : am_lkV RJ7 50 m_J4_append_15ec4 1 := ⟨lk_J4_append_15ec4, (am_gw 1470 (by decide +kernel) (by decide +kernel)), im_J4_append_15ec4, sl_J4_append_15ec4⟩
theorem lk_RJ7_61 : am_lkV RJ7 61 m_J4_toString_0e30d 0 := ⟨lk_J4_toString_0e30d, (am_gw 1471 (by decide +kernel) (by decide +kernel)), im_J4_toString_0e30d, sl_J4_toString_0e30d⟩
theorem lk_RX10_36 : am_lkI RX10 36 m_J4_init_da8c8 0 := ⟨lk_J4_init_da8c8, rfl, Or.inl (am_gw 1284 (by decide +kernel) (by decide +kernel)), by decide +kernel, im_J4_init_da8c8⟩
theorem lk_RX10_39 : am_lkV RX10 39 m_J4_append_15ec4 1 := ⟨lk_J4_append_15ec4, (am_gw 1313 (by decide +kernel) (by decide +kernel)), im_J4_append_15ec4, sl_J4_append_15ec4⟩
theorem lk_RX10_43 : am_lkV RX10 43 m_J4_append_bf812 1 := ⟨lk_J4_append_bf812, (am_gw 1404 (by decide +kernel) (by decide +kernel)), im_J4_append_bf812, sl_J4_append_bf812⟩
theorem lk_RX10_46 : am_lkV RX10 46 m_J4_toString_0e30d 0 := ⟨lk_J4_toString_0e30d, (am_gw 1429 (by decide +kernel) (by decide +kernel)), im_J4_toString_0e30d, sl_J4_toString_0e30d⟩
theorem fl_RJ5_15 : am_fl RJ5 15 13 0 := ⟨_, rfl, by decide, Or.inl (am_gw 1299 (by decide +kernel) (by decide +kernel))⟩
theorem fl_RJ5_22 : am_fl RJ5 22 13 1 := ⟨_, rfl, by decide, Or.inl (am_gw 1300 (by decide +kernel) (by decide +kernel))⟩
theorem fl_RJ0_1048 : am_fl RJ0 1048 13 2 := ⟨_, rfl, by decide, Or.inl (am_gw 1301 (by decide +kernel) (by decide +kernel))⟩
theorem fl_RJ5_79 : am_fl RJ5 79 13 3 := ⟨_, rfl, by decide, Or.inl (am_gw 1302 (by decide +kernel) (by decide +kernel))⟩
theorem fl_RJ0_9 : am_fl RJ0 9 12 0 := ⟨_, rfl, by decide, Or.inl (am_gw 1483 (by decide +kernel) (by decide +kernel))⟩
theorem fl_RJ0_15 : am_fl RJ0 15 12 1 := ⟨_, rfl, by decide, Or.inl (am_gw 1484 (by decide +kernel) (by decide +kernel))⟩
