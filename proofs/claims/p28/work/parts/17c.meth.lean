/-! The law's longest method. -/
theorem gw_randomField : Cond.code yL_randomField cL_randomField 12 (some (FieldType.object "CornerClaimsLaw$Field")) ∈ GW := by
  refine List.mem_filter.mpr ⟨?_, rfl⟩
  show _ ∈ k2_sels lw_privs ++ tables_1
  refine List.mem_append_right _ ?_
  show _ ∈ tables_1_1 ++ (tables_1_2 ++ (tables_1_3 ++ (tables_1_4 ++ (tables_1_5 ++ (tables_1_6 ++ tables_1_7)))))
  refine List.mem_append_right _ (List.mem_append_right _ (List.mem_append_right _ (List.mem_append_right _ (List.mem_append_left _ ?_))))
  exact List.mem_of_getElem? (i := 221) rfl
abbrev m_L_randomField : YR := (yL_randomField, cL_randomField, 12, (some (FieldType.object "CornerClaimsLaw$Field")), [])
theorem wf_L_randomField : am_wf m_L_randomField := ⟨by
  unfold am_cw
  rw [if_pos rfl]
  exact gw_randomField, by decide +kernel⟩
