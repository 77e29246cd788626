/-! The law's longest method. -/
abbrev m_L_randomField : YR := (yL_randomField, cL_randomField, 12, (some (FieldType.object "CornerClaimsLaw$Field")), [])
theorem wf_L_randomField : am_wf m_L_randomField := ⟨am_gw 1219 (by decide +kernel) (by decide +kernel), by decide +kernel⟩
