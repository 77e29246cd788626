/-! Fields, arrays, objects: what the instructions do to an abstract heap. -/
theorem am_gw {w : Cond} (i : Nat) (h : lw_tbl[i]? = some w) (hg : goodWord w = true) : w ∈ GW := List.mem_filter.mpr ⟨List.mem_of_getElem? h, hg⟩
theorem am_nw {w : Cond} (i : Nat) (h : lw_tbl[i]? = some w) (hg : am_nestW w = true) : w ∈ am_NW := List.mem_filter.mpr ⟨List.mem_of_getElem? h, hg⟩
theorem am_in_X0 : ∀ w ∈ u_ws RX0 TX0 10, w ∈ GW := fun w h => List.mem_filter.mpr ⟨(by decide +kernel : ∀ w ∈ u_ws RX0 TX0 10, w ∈ lw_tbl) w h, (by decide +kernel : ∀ w ∈ u_ws RX0 TX0 10, goodWord w = true) w h⟩
theorem am_in_X2 : ∀ w ∈ u_ws RX2 TX2 3, w ∈ GW := fun w h => List.mem_filter.mpr ⟨(by decide +kernel : ∀ w ∈ u_ws RX2 TX2 3, w ∈ lw_tbl) w h, (by decide +kernel : ∀ w ∈ u_ws RX2 TX2 3, goodWord w = true) w h⟩
theorem am_in_X3 : ∀ w ∈ u_ws RX3 TX3 2, w ∈ GW := fun w h => List.mem_filter.mpr ⟨(by decide +kernel : ∀ w ∈ u_ws RX3 TX3 2, w ∈ lw_tbl) w h, (by decide +kernel : ∀ w ∈ u_ws RX3 TX3 2, goodWord w = true) w h⟩
theorem am_in_X4 : ∀ w ∈ u_ws RX4 TX4 8, w ∈ GW := fun w h => List.mem_filter.mpr ⟨(by decide +kernel : ∀ w ∈ u_ws RX4 TX4 8, w ∈ lw_tbl) w h, (by decide +kernel : ∀ w ∈ u_ws RX4 TX4 8, goodWord w = true) w h⟩
theorem am_in_X5 : ∀ w ∈ u_ws RX5 TX5 4, w ∈ GW := fun w h => List.mem_filter.mpr ⟨(by decide +kernel : ∀ w ∈ u_ws RX5 TX5 4, w ∈ lw_tbl) w h, (by decide +kernel : ∀ w ∈ u_ws RX5 TX5 4, goodWord w = true) w h⟩
theorem am_in_X6 : ∀ w ∈ u_ws RX6 TX6 15, w ∈ GW := fun w h => List.mem_filter.mpr ⟨(by decide +kernel : ∀ w ∈ u_ws RX6 TX6 15, w ∈ lw_tbl) w h, (by decide +kernel : ∀ w ∈ u_ws RX6 TX6 15, goodWord w = true) w h⟩
theorem am_in_X7 : ∀ w ∈ u_ws RX7 TX7 5, w ∈ GW := fun w h => List.mem_filter.mpr ⟨(by decide +kernel : ∀ w ∈ u_ws RX7 TX7 5, w ∈ lw_tbl) w h, (by decide +kernel : ∀ w ∈ u_ws RX7 TX7 5, goodWord w = true) w h⟩
theorem am_in_X8 : ∀ w ∈ u_ws RX8 TX8 9, w ∈ GW := fun w h => List.mem_filter.mpr ⟨(by decide +kernel : ∀ w ∈ u_ws RX8 TX8 9, w ∈ lw_tbl) w h, (by decide +kernel : ∀ w ∈ u_ws RX8 TX8 9, goodWord w = true) w h⟩
theorem am_in_X9 : ∀ w ∈ u_ws RX9 TX9 5, w ∈ GW := fun w h => List.mem_filter.mpr ⟨(by decide +kernel : ∀ w ∈ u_ws RX9 TX9 5, w ∈ lw_tbl) w h, (by decide +kernel : ∀ w ∈ u_ws RX9 TX9 5, goodWord w = true) w h⟩
theorem am_in_X10 : ∀ w ∈ u_ws RX10 TX10 4, w ∈ GW := fun w h => List.mem_filter.mpr ⟨(by decide +kernel : ∀ w ∈ u_ws RX10 TX10 4, w ∈ lw_tbl) w h, (by decide +kernel : ∀ w ∈ u_ws RX10 TX10 4, goodWord w = true) w h⟩
theorem am_in_X11 : ∀ w ∈ u_ws RX11 TX11 1, w ∈ GW := fun w h => List.mem_filter.mpr ⟨(by decide +kernel : ∀ w ∈ u_ws RX11 TX11 1, w ∈ lw_tbl) w h, (by decide +kernel : ∀ w ∈ u_ws RX11 TX11 1, goodWord w = true) w h⟩
theorem am_in_X12 : ∀ w ∈ u_ws RX12 TX12 3, w ∈ GW := fun w h => List.mem_filter.mpr ⟨(by decide +kernel : ∀ w ∈ u_ws RX12 TX12 3, w ∈ lw_tbl) w h, (by decide +kernel : ∀ w ∈ u_ws RX12 TX12 3, goodWord w = true) w h⟩
theorem am_in_J0 : ∀ w ∈ u_ws RJ0 TJ0 4, w ∈ GW := fun w h => List.mem_filter.mpr ⟨(by decide +kernel : ∀ w ∈ u_ws RJ0 TJ0 4, w ∈ lw_tbl) w h, (by decide +kernel : ∀ w ∈ u_ws RJ0 TJ0 4, goodWord w = true) w h⟩
theorem am_in_J4 : ∀ w ∈ u_ws RJ4 TJ4 4, w ∈ GW := fun w h => List.mem_filter.mpr ⟨(by decide +kernel : ∀ w ∈ u_ws RJ4 TJ4 4, w ∈ lw_tbl) w h, (by decide +kernel : ∀ w ∈ u_ws RJ4 TJ4 4, goodWord w = true) w h⟩
theorem am_cls : ∀ (ci : Nat) (q : vw_C), vwCl[ci]? = some q → (∀ w ∈ u_ws q.1 q.2.1 q.2.2, w ∈ GW) ∧ (∀ a, a < q.2.2 → ∀ b, b < q.2.2 → a ≠ b → (q.2.1 a).2.1 ≠ (q.2.1 b).2.1) ∧ (∀ k, k < q.2.2 → parseFieldDescriptor (q.2.1 k).2.2.1 = some (am_fty ci k)) ∧ ci < 14
  | 0, _, h => by cases h; exact ⟨am_in_X0, nmX0, tyX0_ok, by decide⟩
  | 1, _, h => by cases h; exact ⟨am_in_X2, nmX2, tyX2_ok, by decide⟩
  | 2, _, h => by cases h; exact ⟨am_in_X3, nmX3, tyX3_ok, by decide⟩
  | 3, _, h => by cases h; exact ⟨am_in_X4, nmX4, tyX4_ok, by decide⟩
  | 4, _, h => by cases h; exact ⟨am_in_X5, nmX5, tyX5_ok, by decide⟩
  | 5, _, h => by cases h; exact ⟨am_in_X6, nmX6, tyX6_ok, by decide⟩
  | 6, _, h => by cases h; exact ⟨am_in_X7, nmX7, tyX7_ok, by decide⟩
  | 7, _, h => by cases h; exact ⟨am_in_X8, nmX8, tyX8_ok, by decide⟩
  | 8, _, h => by cases h; exact ⟨am_in_X9, nmX9, tyX9_ok, by decide⟩
  | 9, _, h => by cases h; exact ⟨am_in_X10, nmX10, tyX10_ok, by decide⟩
  | 10, _, h => by cases h; exact ⟨am_in_X11, nmX11, tyX11_ok, by decide⟩
  | 11, _, h => by cases h; exact ⟨am_in_X12, nmX12, tyX12_ok, by decide⟩
  | 12, _, h => by cases h; exact ⟨am_in_J0, nmJ0, tyJ0_ok, by decide⟩
  | 13, _, h => by cases h; exact ⟨am_in_J4, nmJ4, tyJ4_ok, by decide⟩
  | n + 14, _, h => by simp [vwCl] at h
