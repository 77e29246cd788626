/-! Strings: their lengths and letters, as the JDK tells them. -/
abbrev vn (r : Option Nat) : AV := Sum.inr (Sum.inr r)
theorem am_okr_c : ∀ n : Nat, n < 256 → narrow .char (.int (Int32.ofInt (n : Int))) = .int (Int32.ofInt (n : Int)) := by decide +kernel
section ASTR
variable {w : am_w} {y : YR} {d pc idx : Nat} {lv : List (Nat × AV)} {st : List AV} {h : AH} {i : Nat}
theorem AS.ldcS (hi : i < am_STR.length) {k : Nat} (hti : (am_txt i).1 = y.1.cls ∧ (am_txt i).2.1 = k) (hd : decode y.2.1 pc = .ok (.ldc k, 2)) : AS w y d pc lv st h (pc + 2) lv (vr (w.2 i) :: st) h :=
  AS.lift fun p l e R s m args below meth c H locs cells slots Q ls hC hKS hKH hR hl hcl hsl hv kk => by
    have h1 := hKS.2.1 i hi
    rw [hti.1, hti.2] at h1
    exact va_ldcS hC.1 hC.2.1 hC.2.2.2.1 h1 hd (kk ls hv)
theorem AS.strC (hi : i < am_STR.length) (hw : Cond.fieldLink y.1.cls idx "java/lang/String" "coder" "B" ∈ GW) (hd : decode y.2.1 pc = .ok (.getfield idx, 3)) : AS w y d pc lv (vr (w.2 i) :: st) h (pc + 3) lv (vi 0 :: st) h :=
  AS.lift fun p l e R s m args below meth c H locs cells slots Q ls hC hKS hKH hR hl hcl hsl hv kk => by
    obtain ⟨cf, k, fi, f, cell, h1, h2, h3, h4, h5, h6⟩ := (hKH.2.2.2.2.2 i hi).2.1
    exact W.getf hC.1 hC.2.1 hC.2.2.2.1 (hC.2.2.2.2.1 _ hw) h1 h2 h3 h4 h5 rfl rfl hd (kk ls hv)
theorem AS.strV (hi : i < am_STR.length) (hw : Cond.fieldLink y.1.cls idx "java/lang/String" "value" "[B" ∈ GW) (hd : decode y.2.1 pc = .ok (.getfield idx, 3)) : AS w y d pc lv (vr (w.2 i) :: st) h (pc + 3) lv (vr (w.2 (200 + i)) :: st) h :=
  AS.lift fun p l e R s m args below meth c H locs cells slots Q ls hC hKS hKH hR hl hcl hsl hv kk => by
    obtain ⟨cf, k, fi, f, cell, h1, h2, h3, h4, h5, h6⟩ := (hKH.2.2.2.2.2 i hi).2.2.1
    exact W.getf hC.1 hC.2.1 hC.2.2.2.1 (hC.2.2.2.2.1 _ hw) h1 h2 h3 h4 h5 rfl rfl hd (kk ls hv)
theorem AS.getCS (hw : Cond.fieldLink y.1.cls idx "java/lang/String" "COMPACT_STRINGS" "Z" ∈ GW) (hd : decode y.2.1 pc = .ok (.getstatic idx, 3)) : AS w y d pc lv st h (pc + 3) lv (vi 1 :: st) h :=
  AS.lift fun p l e R s m args below meth c H locs cells slots Q ls hC hKS hKH hR hl hcl hsl hv kk => by
    obtain ⟨cf, kf, fi, f, a, cell, h1, h2, h3, h4, h5, h6, h7, h8⟩ := hKH.2.2.2.2.1.1
    exact W.gets hC.1 hC.2.1 hC.2.2.2.1 (hC.2.2.2.2.1 _ hw) h1 h2 h3 h4 h5 (fun e => by rw [e] at h6; cases h6) h7 rfl hd (kk ls hv)
theorem AS.getSF (hw : Cond.fieldLink y.1.cls idx "jdk/internal/util/Preconditions" "SIOOBE_FORMATTER" "Ljava/util/function/BiFunction;" ∈ GW) (hd : decode y.2.1 pc = .ok (.getstatic idx, 3)) : AS w y d pc lv st h (pc + 3) lv (vn (am_fmt w) :: st) h :=
  AS.lift fun p l e R s m args below meth c H locs cells slots Q ls hC hKS hKH hR hl hcl hsl hv kk => by
    obtain ⟨cf, kf, fi, f, a, cell, h1, h2, h3, h4, h5, h6, h7, h8⟩ := hKH.2.2.2.2.1.2
    exact W.gets hC.1 hC.2.1 hC.2.2.2.1 (hC.2.2.2.2.1 _ hw) h1 h2 h3 h4 h5 (fun e => by rw [e] at h6; cases h6) h7 rfl hd (kk ls hv)
theorem AS.strL (hi : i < am_STR.length) (hd : decode y.2.1 pc = .ok (.arraylength, 1)) : AS w y d pc lv (vr (w.2 (200 + i)) :: st) h (pc + 1) lv (vi (am_len i : Int) :: st) h :=
  AS.lift fun p l e R s m args below meth c H locs cells slots Q ls hC hKS hKH hR hl hcl hsl hv kk => by
    obtain ⟨cell, h1, h2, h3, h4, h5, h6, h7⟩ := (hKH.2.2.2.2.2 i hi).2.2.2
    exact W.alen hC.1 hC.2.1 h1 h2 (h5.trans (by show Int32.ofNat _ = Int32.ofInt _; rw [← Int32.ofInt_eq_ofNat])) rfl rfl hd (kk ls hv)
theorem AS.strB (hi : i < am_STR.length) {j : Nat} (hj : j < am_len i) (hs : am_len i < 2147483648) (hd : decode y.2.1 pc = .ok (.baload, 1)) : AS w y d pc lv (vi (j : Int) :: vr (w.2 (200 + i)) :: st) h (pc + 1) lv (vi (am_byt i j) :: st) h :=
  AS.lift fun p l e R s m args below meth c H locs cells slots Q ls hC hKS hKH hR hl hcl hsl hv kk => by
    obtain ⟨cell, h1, h2, h3, h4, h5, h6, h7⟩ := (hKH.2.2.2.2.2 i hi).2.2.2
    obtain ⟨j1, j2, j3, j4⟩ := am_ix (i := (j : Int)) (n := (am_len i : Int)) (by omega) (by omega) (by omega) (z := am_len i) (by simp)
    have j5 : (Int32.ofInt (j : Int)).toNatClampNeg = j := j2.trans (Int.toNat_natCast j)
    refine W.bald hC.1 hC.2.1 h1 h2 h3 (fun q => ?_) (h6 _ (by rw [j5]; exact hj)) rfl rfl hd ?_
    · rcases q with q | q
      · exact j1 (Or.inl q)
      · rw [j5] at q; omega
    · rw [j5]; exact kk ls hv
theorem AS.i2cS {z : Int} (h0 : 0 ≤ z) (h1 : z < 65536) (hd : decode y.2.1 pc = .ok (.i2c, 1)) : AS w y d pc lv (vi z :: st) h (pc + 1) lv (vi z :: st) h :=
  AS.lift fun p l e R s m args below meth c H locs cells slots Q ls hC hKS hKH hR hl hcl hsl hv kk =>
    lv_i2c hC.1 hC.2.1 hd (v := Int32.ofInt z) (by
      have e1 : (Int32.ofInt z).toInt = z := am_toInt ⟨by omega, by omega⟩
      exact lg_i2c_word (by rw [e1]; exact h0) (by rw [e1]; exact h1)) (kk ls hv)
end ASTR
section ASCALL
variable {w : am_w} {y y2 : YR} {d d2 pc idx n b : Nat} {lv : List (Nat × AV)} {av st stk : List AV} {h h1 h' : AH} {r1 r : RV} {i : Nat}
/-- a call of a text's own method -/
theorem AW.callT (hi : i < am_STR.length) (hM : AM w y2 d2 (vr (w.2 i) :: av) h r1 h1) (kk : am_next w y d pc lv st r1 h1 r h') (hlk : am_lkV y.1.cls idx y2 n) (hdd : d2 + 1 ≤ d) (hst : stk = av.reverse ++ vr (w.2 i) :: st) (hn : av.length = n) (hcl : y2.1.cls = "java/lang/String") (h8 : am_cat8 st ≤ 8) (hd : decode y.2.1 pc = .ok (.invokevirtual idx, 3)) : AW w y d pc lv stk h r h' := by
  subst hst
  obtain ⟨m1, m2, m3, m4⟩ := hM
  obtain ⟨l1, l2⟩ := am_next_le kk
  refine ⟨Nat.le_trans m1 l1, Nat.le_trans m2 l2, fun p l e R s m args below meth c H locs cells slots Q ls hC hKS hKH hR hl hv hcl2 hsl hE => ?_⟩
  refine am_after m1 m2 kk hC hKS hl hv hcl2 hsl hE (a := (Value.ref (w.2 i) :: am_st av).toArray) ?_
  obtain ⟨⟨hwf, hhh, hini, hy, hpl, hnl⟩, hml, hin, hsel⟩ := hlk
  have hts := hC.2.2.2.2.1
  have hcw : am_cw y2 = Cond.code y2.1 y2.2.1 y2.2.2.1 y2.2.2.2.1 := by unfold am_cw; rw [if_pos hhh]
  obtain ⟨cell, q1, q2, q3, q4⟩ := (hKH.2.2.2.2.2 i hi).1
  have h5 := hC.2.2.2.2.2.2.2.2.1
  have h6 := hC.2.2.2.2.2.2.2.2.2.1
  rw [am_rv]
  exact vx_runV (C := y2.1.cls) (Ts := GW) ⟨hC.1, hC.2.1, hC.2.2.1, hC.2.2.2.1, hts⟩ (m4 l hC.2.2.2.2.2.2.2.1)
    ⟨⟨rfl, rfl, by show d2 + 1 ≤ R.frames; omega, by show 8 + (y2.2.2.1 + 11) + 48 * d2 ≤ R.locals; omega, am_pay hC hwf, by rw [← hcw]; exact List.mem_cons_self, by rw [← hcw]; exact hts _ hwf.1, hts _ hini, hy, am_plen hpl, hts _ hml⟩, hts _ hin, hts _ hsel⟩
    ⟨am_blind, ⟨cell, q1, q2, by rw [hcl]; exact q3⟩, fun U hU hW => ⟨rfl, hKS.warm hW, by rw [hU]; exact hKH.moved hW.alike, by rw [hU]; exact hR.moved hW.alike⟩⟩
    rfl (by rw [← hn]; simp [am_st]) hv.1 rfl (lv_room (by rw [am_cat_ok]; exact h8)) hd ⟨by omega, by omega⟩
theorem q_Ti {Q : RV → AH → Prop} {P : Int → Prop} (hi : i < am_STR.length) (hE : AE w y2 d2 (vr (w.2 i) :: av) h (am_intp h P)) (hlk : am_lkV y.1.cls idx y2 n) (hdd : d2 + 1 ≤ d) (hst : stk = av.reverse ++ vr (w.2 i) :: st) (hn : av.length = n) (hcl : y2.1.cls = "java/lang/String") (h8 : am_cat8 st ≤ 8) (hd : decode y.2.1 pc = .ok (.invokevirtual idx, 3)) (kk : ∀ z, P z → AQ w y d (pc + 3) lv (vi z :: st) h Q) : AQ w y d pc lv stk h Q := by
  obtain ⟨r1, h1, hM, z, rfl, hp, rfl⟩ := hE
  obtain ⟨r, h', k1, k2⟩ := kk z hp
  exact ⟨r, h', AW.callT hi hM (r := r) k1 hlk hdd hst hn hcl h8 hd, k2⟩
end ASCALL
theorem q_rb {w : am_w} {y : YR} {d pc : Nat} {lv : List (Nat × AV)} {h : AH} {Q : RV → AH → Prop} (hr : y.2.2.2.1 = some .byte) (hd : decode y.2.1 pc = .ok (.ireturn, 1)) (hq : Q (.inl (some (vi 0))) h) : AQ w y d pc lv [vi 0] h Q := AQ.ret (v := some (vi 0)) (by rw [hr]; exact hd) (by rw [hr]; exact ⟨0, rfl, by decide⟩) hq
theorem q_rc {w : am_w} {y : YR} {d pc : Nat} {lv : List (Nat × AV)} {h : AH} {Q : RV → AH → Prop} {z : Int} (hr : y.2.2.2.1 = some .char) (h0 : 0 ≤ z) (h1 : z < 256) (hd : decode y.2.1 pc = .ok (.ireturn, 1)) (hq : Q (.inl (some (vi z))) h) : AQ w y d pc lv [vi z] h Q := AQ.ret (v := some (vi z)) (by rw [hr]; exact hd) (by
  rw [hr]
  refine ⟨z, rfl, ?_⟩
  have := am_okr_c z.toNat (by omega)
  rw [Int.toNat_of_nonneg h0] at this
  exact this) hq
theorem am_ok_b0 {h : AH} : ∀ v h', am_intp h (fun z => z = 0) (.inl v) h' → am_okr (some .byte) v := fun v h' ⟨z, e, p, _⟩ => by cases e; subst p; exact ⟨0, rfl, by decide⟩
theorem am_ok_c {h : AH} {P : Int → Prop} (hz : ∀ z, P z → 0 ≤ z ∧ z < 256) : ∀ v h', am_intp h P (.inl v) h' → am_okr (some .char) v := fun v h' ⟨z, e, p, _⟩ => by
  cases e
  refine ⟨z, rfl, ?_⟩
  have := am_okr_c z.toNat (by have := hz z p; omega)
  rw [Int.toNat_of_nonneg (hz z p).1] at this
  exact this
/-- the letters of the texts are small -/
theorem am_byt_r : ∀ i, i < am_STR.length → am_len i < 100 ∧ ∀ j, j < am_len i → 0 ≤ am_byt i j ∧ am_byt i j < 128 := by decide +kernel
def yXS_coder : MethodName := ⟨"java/lang/String", "coder", "()B"⟩
abbrev cXS_coder : ByteArray := prog_30_method_152_code
abbrev m_XS_coder : YR := (yXS_coder, cXS_coder, 1, (some FieldType.byte), [])
theorem wf_XS_coder : am_wf m_XS_coder := ⟨am_gw 752 (by decide +kernel) (by decide +kernel), by decide +kernel⟩
theorem in_RXS : Cond.initialized "java/lang/String" ∈ GW := am_gw 59 (by decide +kernel) (by decide +kernel)
theorem lk_XS_coder : am_lk m_XS_coder 0 := ⟨wf_XS_coder, rfl, in_RXS, ⟨by decide +kernel, by decide +kernel⟩, by decide +kernel, by decide⟩
theorem im_XS_coder : Cond.instanceMethod yXS_coder ∈ GW := am_gw 750 (by decide +kernel) (by decide +kernel)
theorem sl_XS_coder : Cond.selects "java/lang/String" yXS_coder yXS_coder ∈ GW := am_gw 751 (by decide +kernel) (by decide +kernel)
theorem kXS_coder_6 : am_dec cXS_coder 6 [.aload_n 0] 7 = true := by decide +kernel
theorem eXS_coder_0 : decode cXS_coder 0 = .ok (.getstatic 38, 3) := by decide +kernel
theorem eXS_coder_3 : decode cXS_coder 3 = .ok (.ifCond .eq 10, 3) := by decide +kernel
theorem eXS_coder_7 : decode cXS_coder 7 = .ok (.getfield 15, 3) := by decide +kernel
theorem eXS_coder_10 : decode cXS_coder 10 = .ok (.goto 4, 3) := by decide +kernel
theorem eXS_coder_14 : decode cXS_coder 14 = .ok (.ireturn, 1) := by decide +kernel
def yXS_length : MethodName := ⟨"java/lang/String", "length", "()I"⟩
abbrev cXS_length : ByteArray := prog_30_method_54_code
abbrev m_XS_length : YR := (yXS_length, cXS_length, 1, (some FieldType.int), [])
theorem wf_XS_length : am_wf m_XS_length := ⟨am_gw 748 (by decide +kernel) (by decide +kernel), by decide +kernel⟩
theorem lk_XS_length : am_lk m_XS_length 0 := ⟨wf_XS_length, rfl, in_RXS, ⟨by decide +kernel, by decide +kernel⟩, by decide +kernel, by decide⟩
theorem im_XS_length : Cond.instanceMethod yXS_length ∈ GW := am_gw 746 (by decide +kernel) (by decide +kernel)
theorem sl_XS_length : Cond.selects "java/lang/String" yXS_length yXS_length ∈ GW := am_gw 747 (by decide +kernel) (by decide +kernel)
theorem kXS_length_0 : am_dec cXS_length 0 [.aload_n 0] 1 = true := by decide +kernel
theorem kXS_length_5 : am_dec cXS_length 5 [.aload_n 0] 6 = true := by decide +kernel
theorem eXS_length_1 : decode cXS_length 1 = .ok (.getfield 9, 3) := by decide +kernel
theorem eXS_length_4 : decode cXS_length 4 = .ok (.arraylength, 1) := by decide +kernel
theorem eXS_length_6 : decode cXS_length 6 = .ok (.invokevirtual 335, 3) := by decide +kernel
theorem eXS_length_9 : decode cXS_length 9 = .ok (.ishr, 1) := by decide +kernel
theorem eXS_length_10 : decode cXS_length 10 = .ok (.ireturn, 1) := by decide +kernel
def yXS_isLatin1 : MethodName := ⟨"java/lang/String", "isLatin1", "()Z"⟩
abbrev cXS_isLatin1 : ByteArray := prog_30_method_154_code
abbrev m_XS_isLatin1 : YR := (yXS_isLatin1, cXS_isLatin1, 1, (some FieldType.boolean), [])
theorem wf_XS_isLatin1 : am_wf m_XS_isLatin1 := ⟨am_gw 762 (by decide +kernel) (by decide +kernel), by decide +kernel⟩
theorem lk_XS_isLatin1 : am_lk m_XS_isLatin1 0 := ⟨wf_XS_isLatin1, rfl, in_RXS, ⟨by decide +kernel, by decide +kernel⟩, by decide +kernel, by decide⟩
theorem im_XS_isLatin1 : Cond.instanceMethod yXS_isLatin1 ∈ GW := am_gw 760 (by decide +kernel) (by decide +kernel)
theorem sl_XS_isLatin1 : Cond.selects "java/lang/String" yXS_isLatin1 yXS_isLatin1 ∈ GW := am_gw 761 (by decide +kernel) (by decide +kernel)
theorem kXS_isLatin1_6 : am_dec cXS_isLatin1 6 [.aload_n 0] 7 = true := by decide +kernel
theorem kXS_isLatin1_13 : am_dec cXS_isLatin1 13 [.iconst 1] 14 = true := by decide +kernel
theorem eXS_isLatin1_0 : decode cXS_isLatin1 0 = .ok (.getstatic 38, 3) := by decide +kernel
theorem eXS_isLatin1_3 : decode cXS_isLatin1 3 = .ok (.ifCond .eq 14, 3) := by decide +kernel
theorem eXS_isLatin1_7 : decode cXS_isLatin1 7 = .ok (.getfield 15, 3) := by decide +kernel
theorem eXS_isLatin1_10 : decode cXS_isLatin1 10 = .ok (.ifCond .ne 7, 3) := by decide +kernel
theorem eXS_isLatin1_14 : decode cXS_isLatin1 14 = .ok (.goto 4, 3) := by decide +kernel
theorem eXS_isLatin1_18 : decode cXS_isLatin1 18 = .ok (.ireturn, 1) := by decide +kernel
def yXP_checkIndex : MethodName := ⟨"jdk/internal/util/Preconditions", "checkIndex", "(IILjava/util/function/BiFunction;)I"⟩
abbrev cXP_checkIndex : ByteArray := prog_41_method_11_code
abbrev m_XP_checkIndex : YR := (yXP_checkIndex, cXP_checkIndex, 3, (some FieldType.int), [])
theorem wf_XP_checkIndex : am_wf m_XP_checkIndex := ⟨am_gw 773 (by decide +kernel) (by decide +kernel), by decide +kernel⟩
theorem in_RXP : Cond.initialized "jdk/internal/util/Preconditions" ∈ GW := am_gw 61 (by decide +kernel) (by decide +kernel)
theorem lk_XP_checkIndex : am_lk m_XP_checkIndex 3 := ⟨wf_XP_checkIndex, rfl, in_RXP, ⟨by decide +kernel, by decide +kernel⟩, by decide +kernel, by decide⟩
theorem im_XP_checkIndex : Cond.static yXP_checkIndex ∈ GW := am_gw 772 (by decide +kernel) (by decide +kernel)
theorem kXP_checkIndex_0 : am_dec cXP_checkIndex 0 [.iload_n 0] 1 = true := by decide +kernel
theorem kXP_checkIndex_4 : am_dec cXP_checkIndex 4 [.iload_n 0, .iload_n 1] 6 = true := by decide +kernel
theorem kXP_checkIndex_16 : am_dec cXP_checkIndex 16 [.iload_n 0] 17 = true := by decide +kernel
theorem eXP_checkIndex_1 : decode cXP_checkIndex 1 = .ok (.ifCond .lt 8, 3) := by decide +kernel
theorem eXP_checkIndex_6 : decode cXP_checkIndex 6 = .ok (.if_icmp .lt 10, 3) := by decide +kernel
theorem eXP_checkIndex_17 : decode cXP_checkIndex 17 = .ok (.ireturn, 1) := by decide +kernel
def yXS_checkIndex : MethodName := ⟨"java/lang/String", "checkIndex", "(II)V"⟩
abbrev cXS_checkIndex : ByteArray := prog_30_method_155_code
abbrev m_XS_checkIndex : YR := (yXS_checkIndex, cXS_checkIndex, 2, (none : Option FieldType), [])
theorem wf_XS_checkIndex : am_wf m_XS_checkIndex := ⟨am_gw 768 (by decide +kernel) (by decide +kernel), by decide +kernel⟩
theorem lk_XS_checkIndex : am_lk m_XS_checkIndex 2 := ⟨wf_XS_checkIndex, rfl, in_RXS, ⟨by decide +kernel, by decide +kernel⟩, by decide +kernel, by decide⟩
theorem im_XS_checkIndex : Cond.static yXS_checkIndex ∈ GW := am_gw 767 (by decide +kernel) (by decide +kernel)
theorem kXS_checkIndex_0 : am_dec cXS_checkIndex 0 [.iload_n 0, .iload_n 1] 2 = true := by decide +kernel
theorem kXS_checkIndex_8 : am_dec cXS_checkIndex 8 [.pop] 9 = true := by decide +kernel
theorem eXS_checkIndex_2 : decode cXS_checkIndex 2 = .ok (.getstatic 1053, 3) := by decide +kernel
theorem eXS_checkIndex_5 : decode cXS_checkIndex 5 = .ok (.invokestatic 1059, 3) := by decide +kernel
theorem eXS_checkIndex_9 : decode cXS_checkIndex 9 = .ok (.return_, 1) := by decide +kernel
def yXL_charAt : MethodName := ⟨"java/lang/StringLatin1", "charAt", "([BI)C"⟩
abbrev cXL_charAt : ByteArray := prog_32_method_2_code
abbrev m_XL_charAt : YR := (yXL_charAt, cXL_charAt, 2, (some FieldType.char), [])
theorem wf_XL_charAt : am_wf m_XL_charAt := ⟨am_gw 765 (by decide +kernel) (by decide +kernel), by decide +kernel⟩
theorem in_RXL : Cond.initialized "java/lang/StringLatin1" ∈ GW := am_gw 60 (by decide +kernel) (by decide +kernel)
theorem lk_XL_charAt : am_lk m_XL_charAt 2 := ⟨wf_XL_charAt, rfl, in_RXL, ⟨by decide +kernel, by decide +kernel⟩, by decide +kernel, by decide⟩
theorem im_XL_charAt : Cond.static yXL_charAt ∈ GW := am_gw 764 (by decide +kernel) (by decide +kernel)
theorem kXL_charAt_0 : am_dec cXL_charAt 0 [.iload_n 1, .aload_n 0] 2 = true := by decide +kernel
theorem kXL_charAt_6 : am_dec cXL_charAt 6 [.aload_n 0, .iload_n 1] 8 = true := by decide +kernel
theorem kXL_charAt_9 : am_dec cXL_charAt 9 [.sipush 255] 12 = true := by decide +kernel
theorem eXL_charAt_2 : decode cXL_charAt 2 = .ok (.arraylength, 1) := by decide +kernel
theorem eXL_charAt_3 : decode cXL_charAt 3 = .ok (.invokestatic 9, 3) := by decide +kernel
theorem eXL_charAt_8 : decode cXL_charAt 8 = .ok (.baload, 1) := by decide +kernel
theorem eXL_charAt_12 : decode cXL_charAt 12 = .ok (.iand, 1) := by decide +kernel
theorem eXL_charAt_13 : decode cXL_charAt 13 = .ok (.i2c, 1) := by decide +kernel
theorem eXL_charAt_14 : decode cXL_charAt 14 = .ok (.ireturn, 1) := by decide +kernel
def yXS_charAt : MethodName := ⟨"java/lang/String", "charAt", "(I)C"⟩
abbrev cXS_charAt : ByteArray := prog_30_method_56_code
abbrev m_XS_charAt : YR := (yXS_charAt, cXS_charAt, 2, (some FieldType.char), [])
theorem wf_XS_charAt : am_wf m_XS_charAt := ⟨am_gw 758 (by decide +kernel) (by decide +kernel), by decide +kernel⟩
theorem lk_XS_charAt : am_lk m_XS_charAt 1 := ⟨wf_XS_charAt, rfl, in_RXS, ⟨by decide +kernel, by decide +kernel⟩, by decide +kernel, by decide⟩
theorem im_XS_charAt : Cond.instanceMethod yXS_charAt ∈ GW := am_gw 756 (by decide +kernel) (by decide +kernel)
theorem sl_XS_charAt : Cond.selects "java/lang/String" yXS_charAt yXS_charAt ∈ GW := am_gw 757 (by decide +kernel) (by decide +kernel)
theorem kXS_charAt_0 : am_dec cXS_charAt 0 [.aload_n 0] 1 = true := by decide +kernel
theorem kXS_charAt_7 : am_dec cXS_charAt 7 [.aload_n 0] 8 = true := by decide +kernel
theorem kXS_charAt_11 : am_dec cXS_charAt 11 [.iload_n 1] 12 = true := by decide +kernel
theorem eXS_charAt_1 : decode cXS_charAt 1 = .ok (.invokevirtual 492, 3) := by decide +kernel
theorem eXS_charAt_4 : decode cXS_charAt 4 = .ok (.ifCond .eq 12, 3) := by decide +kernel
theorem eXS_charAt_8 : decode cXS_charAt 8 = .ok (.getfield 9, 3) := by decide +kernel
theorem eXS_charAt_12 : decode cXS_charAt 12 = .ok (.invokestatic 495, 3) := by decide +kernel
theorem eXS_charAt_15 : decode cXS_charAt 15 = .ok (.ireturn, 1) := by decide +kernel
theorem lk_RXS_335 : am_lkV "java/lang/String" 335 m_XS_coder 0 := ⟨lk_XS_coder, am_gw 749 (by decide +kernel) (by decide +kernel), im_XS_coder, sl_XS_coder⟩
theorem lk_RXS_492 : am_lkV "java/lang/String" 492 m_XS_isLatin1 0 := ⟨lk_XS_isLatin1, am_gw 759 (by decide +kernel) (by decide +kernel), im_XS_isLatin1, sl_XS_isLatin1⟩
theorem lk_RXS_495 : am_lkS "java/lang/String" 495 m_XL_charAt 2 := ⟨lk_XL_charAt, am_gw 763 (by decide +kernel) (by decide +kernel), im_XL_charAt⟩
theorem lk_RXS_1059 : am_lkS "java/lang/String" 1059 m_XP_checkIndex 3 := ⟨lk_XP_checkIndex, am_gw 771 (by decide +kernel) (by decide +kernel), im_XP_checkIndex⟩
theorem lk_RXL_9 : am_lkS "java/lang/StringLatin1" 9 m_XS_checkIndex 2 := ⟨lk_XS_checkIndex, am_gw 766 (by decide +kernel) (by decide +kernel), im_XS_checkIndex⟩
theorem lk_RX6_139 : am_lkV "CornerClaims$Setup" 139 m_XS_length 0 := ⟨lk_XS_length, am_gw 745 (by decide +kernel) (by decide +kernel), im_XS_length, sl_XS_length⟩
theorem lk_RX6_144 : am_lkV "CornerClaims$Setup" 144 m_XS_charAt 1 := ⟨lk_XS_charAt, am_gw 755 (by decide +kernel) (by decide +kernel), im_XS_charAt, sl_XS_charAt⟩
theorem lk_RL_23 : am_lkV "CornerClaimsLaw" 23 m_XS_length 0 := ⟨lk_XS_length, am_gw 1227 (by decide +kernel) (by decide +kernel), im_XS_length, sl_XS_length⟩
theorem lk_RL_29 : am_lkV "CornerClaimsLaw" 29 m_XS_charAt 1 := ⟨lk_XS_charAt, am_gw 1228 (by decide +kernel) (by decide +kernel), im_XS_charAt, sl_XS_charAt⟩
set_option maxHeartbeats 1000000 in
theorem c_XS_coder {w : am_w} {h : AH} {i : Nat} (hi : i < am_STR.length)  : AE w m_XS_coder 1 [vr (w.2 i)] h (am_intp h (fun z => z = 0)) := by
  refine AE.of wf_XS_coder (Nat.le_of_ble_eq_true rfl) (am_ok_b0) ?_
  refine AQ.of (AS.getCS (am_gw 753 (by decide +kernel) (by decide +kernel)) eXS_coder_0) ?_
  refine AQ.of (AS.if_eq_f eXS_coder_3 ⟨by decide, by decide⟩ (by decide) (by decide)) ?_
  refine q_blk (lv2 := [(0, vr (w.2 i))]) (st2 := [vr (w.2 i)]) kXS_coder_6 rfl ?_
  refine AQ.of (AS.strC hi (am_gw 1484 (by decide +kernel) (by decide +kernel)) eXS_coder_7) ?_
  refine q_goto (tgt := 14) eXS_coder_10 (by decide) ?_
  exact q_rb rfl eXS_coder_14 ⟨0, rfl, rfl, rfl⟩

set_option maxHeartbeats 1000000 in
theorem c_XS_length {w : am_w} {h : AH} {i : Nat} (hi : i < am_STR.length)  : AE w m_XS_length 2 [vr (w.2 i)] h (am_intp h (fun z => z = (am_len i : Int))) := by
  refine AE.of wf_XS_length (Nat.le_of_ble_eq_true rfl) (am_ok_ip) ?_
  refine q_blk (lv2 := [(0, vr (w.2 i))]) (st2 := [vr (w.2 i)]) kXS_length_0 rfl ?_
  refine AQ.of (AS.strV hi (am_gw 1483 (by decide +kernel) (by decide +kernel)) eXS_length_1) ?_
  refine AQ.of (AS.strL hi eXS_length_4) ?_
  refine q_blk (lv2 := [(0, vr (w.2 i))]) (st2 := [vr (w.2 i), vi (am_len i : Int)]) kXS_length_5 rfl ?_
  refine q_Ti hi (av := []) (st := [vi (am_len i : Int)]) (c_XS_coder hi) lk_RXS_335 (by decide) rfl rfl rfl (Nat.le_of_ble_eq_true rfl) eXS_length_6 (fun z1 e2 => ?_)
  subst e2
  have hz1 := (am_byt_r i hi).1
  refine AQ.of (AS.ishr (a := (am_len i : Int)) (b := 0) eXS_length_9 ⟨by omega, by omega⟩ (by decide) (by decide)) ?_
  rw [show ((am_len i : Int) / ((2 ^ Int.toNat 0 : Nat) : Int)) = (am_len i : Int) from Int.ediv_one _]
  exact q_ri rfl eXS_length_10 ⟨(am_len i : Int), rfl, rfl, rfl⟩

set_option maxHeartbeats 1000000 in
theorem c_XS_isLatin1 {w : am_w} {h : AH} {i : Nat} (hi : i < am_STR.length)  : AE w m_XS_isLatin1 1 [vr (w.2 i)] h (am_intp h (fun z => am_b z True)) := by
  refine AE.of wf_XS_isLatin1 (Nat.le_of_ble_eq_true rfl) (am_ok_zp (fun z q => am_bz q)) ?_
  refine AQ.of (AS.getCS (am_gw 753 (by decide +kernel) (by decide +kernel)) eXS_isLatin1_0) ?_
  refine AQ.of (AS.if_eq_f eXS_isLatin1_3 ⟨by decide, by decide⟩ (by decide) (by decide)) ?_
  refine q_blk (lv2 := [(0, vr (w.2 i))]) (st2 := [vr (w.2 i)]) kXS_isLatin1_6 rfl ?_
  refine AQ.of (AS.strC hi (am_gw 1484 (by decide +kernel) (by decide +kernel)) eXS_isLatin1_7) ?_
  refine AQ.of (AS.if_ne_f eXS_isLatin1_10 ⟨by decide, by decide⟩ (by decide) (by decide)) ?_
  refine q_blk (lv2 := [(0, vr (w.2 i))]) (st2 := [vi 1]) kXS_isLatin1_13 rfl ?_
  refine q_goto (tgt := 18) eXS_isLatin1_14 (by decide) ?_
  exact q_rz rfl eXS_isLatin1_18 (by decide) ⟨1, rfl, Or.inl ⟨rfl, trivial⟩, rfl⟩

set_option maxHeartbeats 1000000 in
theorem c_XP_checkIndex {w : am_w} {h : AH} {a b : Int} {f : Option Nat} (ra : am_r a) (rb : am_r b) (h0 : 0 ≤ a) (h1 : a < b)  : AE w m_XP_checkIndex 1 [vi a, vi b, vn f] h (am_intp h (fun z => z = a)) := by
  refine AE.of wf_XP_checkIndex (by cases f <;> exact Nat.le_of_ble_eq_true rfl) (am_ok_ip) ?_
  refine q_blk (lv2 := [(0, vi a), (1, vi b), (2, vn f)]) (st2 := [vi a]) kXP_checkIndex_0 rfl ?_
  refine AQ.of (AS.if_lt_f eXP_checkIndex_1 (by first | assumption | exact ⟨by omega, by omega⟩) (by omega) (by decide)) ?_
  refine q_blk (lv2 := [(0, vi a), (1, vi b), (2, vn f)]) (st2 := [vi b, vi a]) kXP_checkIndex_4 rfl ?_
  refine AQ.of (AS.ic_lt_t (tgt := 16) eXP_checkIndex_6 (by decide) (by first | assumption | exact ⟨by omega, by omega⟩) (by first | assumption | exact ⟨by omega, by omega⟩) (by omega)) ?_
  refine q_blk (lv2 := [(0, vi a), (1, vi b), (2, vn f)]) (st2 := [vi a]) kXP_checkIndex_16 rfl ?_
  exact q_ri rfl eXP_checkIndex_17 ⟨a, rfl, rfl, rfl⟩

set_option maxHeartbeats 1000000 in
theorem c_XS_checkIndex {w : am_w} {h : AH} {a b : Int} (ra : am_r a) (rb : am_r b) (h0 : 0 ≤ a) (h1 : a < b)  : AE w m_XS_checkIndex 2 [vi a, vi b] h (am_unit (fun h1 => h = h1)) := by
  refine AE.of wf_XS_checkIndex (Nat.le_of_ble_eq_true rfl) (am_ok_v) ?_
  refine q_blk (lv2 := [(0, vi a), (1, vi b)]) (st2 := [vi b, vi a]) kXS_checkIndex_0 rfl ?_
  refine AQ.of (AS.getSF (am_gw 769 (by decide +kernel) (by decide +kernel)) eXS_checkIndex_2) ?_
  refine q_Si (av := [vi a, vi b, vn (am_fmt w)]) (st := []) (c_XP_checkIndex ra rb h0 h1) lk_RXS_1059 (by decide) rfl rfl (Nat.le_of_ble_eq_true rfl) eXS_checkIndex_5 (fun z9 e9 => ?_)
  refine q_blk (lv2 := [(0, vi a), (1, vi b)]) (st2 := []) kXS_checkIndex_8 rfl ?_
  exact q_rv rfl eXS_checkIndex_9 ⟨rfl, rfl⟩

set_option maxHeartbeats 1000000 in
theorem c_XL_charAt {w : am_w} {h : AH} {i : Nat} (hi : i < am_STR.length) {j : Nat} (hj : j < am_len i)  : AE w m_XL_charAt 3 [vr (w.2 (200 + i)), vi (j : Int)] h (am_intp h (fun z => z = am_byt i j)) := by
  refine AE.of wf_XL_charAt (Nat.le_of_ble_eq_true rfl) (am_ok_c (fun z q => by have := (am_byt_r i hi).2 j hj; omega)) ?_
  have hz1 := (am_byt_r i hi).1
  have hz2 := (am_byt_r i hi).2 j hj
  refine q_blk (lv2 := [(0, vr (w.2 (200 + i))), (1, vi (j : Int))]) (st2 := [vr (w.2 (200 + i)), vi (j : Int)]) kXL_charAt_0 rfl ?_
  refine AQ.of (AS.strL hi eXL_charAt_2) ?_
  refine AQ.callSv (av := [vi (j : Int), vi (am_len i : Int)]) (st := []) (c_XS_checkIndex ⟨by omega, by omega⟩ ⟨by omega, by omega⟩ (by omega) (by omega)) lk_RXL_9 (by decide) rfl rfl (Nat.le_of_ble_eq_true rfl) eXL_charAt_3 (fun h2 e2 => ?_)
  subst e2
  refine q_blk (lv2 := [(0, vr (w.2 (200 + i))), (1, vi (j : Int))]) (st2 := [vi (j : Int), vr (w.2 (200 + i))]) kXL_charAt_6 rfl ?_
  refine AQ.of (AS.strB hi hj (by omega) eXL_charAt_8) ?_
  refine q_blk (lv2 := [(0, vr (w.2 (200 + i))), (1, vi (j : Int))]) (st2 := [vi 255, vi (am_byt i j)]) kXL_charAt_9 rfl ?_
  refine AQ.of (AS.iand255 (a := am_byt i j) eXL_charAt_12) ?_
  rw [show am_byt i j % 256 = am_byt i j by omega]
  refine AQ.of (AS.i2cS (z := am_byt i j) (by omega) (by omega) eXL_charAt_13) ?_
  exact q_rc rfl (by omega) (by omega) eXL_charAt_14 ⟨_, rfl, rfl, rfl⟩

set_option maxHeartbeats 1000000 in
theorem c_XS_charAt {w : am_w} {h : AH} {i : Nat} (hi : i < am_STR.length) {j : Nat} (hj : j < am_len i)  : AE w m_XS_charAt 4 [vr (w.2 i), vi (j : Int)] h (am_intp h (fun z => z = am_byt i j)) := by
  refine AE.of wf_XS_charAt (Nat.le_of_ble_eq_true rfl) (am_ok_c (fun z q => by have := (am_byt_r i hi).2 j hj; omega)) ?_
  have hz2 := (am_byt_r i hi).2 j hj
  refine q_blk (lv2 := [(0, vr (w.2 i)), (1, vi (j : Int))]) (st2 := [vr (w.2 i)]) kXS_charAt_0 rfl ?_
  refine q_Ti hi (av := []) (st := []) (c_XS_isLatin1 hi) lk_RXS_492 (by decide) rfl rfl rfl (Nat.le_of_ble_eq_true rfl) eXS_charAt_1 (fun z8 e8 => ?_)
  obtain rfl : z8 = 1 := by rcases e8 with ⟨e8, -⟩ | ⟨-, e8⟩; exact e8; exact absurd trivial e8
  refine AQ.of (AS.if_eq_f eXS_charAt_4 ⟨by decide, by decide⟩ (by decide) (by decide)) ?_
  refine q_blk (lv2 := [(0, vr (w.2 i)), (1, vi (j : Int))]) (st2 := [vr (w.2 i)]) kXS_charAt_7 rfl ?_
  refine AQ.of (AS.strV hi (am_gw 1483 (by decide +kernel) (by decide +kernel)) eXS_charAt_8) ?_
  refine q_blk (lv2 := [(0, vr (w.2 i)), (1, vi (j : Int))]) (st2 := [vi (j : Int), vr (w.2 (200 + i))]) kXS_charAt_11 rfl ?_
  refine q_Si (av := [vr (w.2 (200 + i)), vi (j : Int)]) (st := []) (c_XL_charAt hi hj) lk_RXS_495 (by decide) rfl rfl (Nat.le_of_ble_eq_true rfl) eXS_charAt_12 (fun z9 e9 => ?_)
  subst e9
  exact q_rc rfl (by omega) (by omega) eXS_charAt_15 ⟨_, rfl, rfl, rfl⟩
