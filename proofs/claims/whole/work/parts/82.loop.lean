/-! The law: its loop. -/
theorem j_loop {nm : String} {T : List (Nat × Nat × Nat × Nat)} {w : am_w} {h0 : AH} {o n out b : Nat} {len : Int} {g : Int → Int} (J : JI w h0 o n out) (hb : ∃ G, h0.1 b = some (110, len, g, G)) (bo : b < o) (l0 : 0 ≤ len ∧ len ≤ 3072) (hg : ∀ k, am_r (g k)) : AQ w (mL nm T) 24 23 [(0, vr b), (1, vr o), (2, vr n), (3, vr out), (4, vi 0)] [] h0 (fun r h' => r = .inl (some (vi 1)) ∧ (h'.2.1 ≤ h0.2.1 + 6156 ∧ h'.2.2 ≤ h0.2.2 + 4924800)) := by
  refine am_lp2 (I := fun (i : Int) (h : AH) => (JI w h o n out ∧ ∃ G, h.1 b = some (110, len, g, G)) ∧ (0 ≤ i ∧ i ≤ len + 6) ∧ (h.2.1 ≤ h0.2.1 + 2 * i.toNat ∧ h.2.2 ≤ h0.2.2 + 1600 * i.toNat)) (μ := fun (i : Int) (h : AH) => (len + 12 - i).toNat) (G := fun (i : Int) (h : AH) => AQ w (mL nm T) 24 23 [(0, vr b), (1, vr o), (2, vr n), (3, vr out), (4, vi i)] [] h (fun r h' => r = .inl (some (vi 1)) ∧ (h'.2.1 ≤ h0.2.1 + 6156 ∧ h'.2.2 ≤ h0.2.2 + 4924800))) ?_ 0 h0 ⟨⟨J, hb⟩, ⟨by omega, by omega⟩, by omega, by omega⟩
  rintro i h ⟨⟨J, G, sb⟩, ⟨i0, i1⟩, ⟨g1, g2⟩⟩ ih
  refine q_blk (lv2 := [(0, vr b), (1, vr o), (2, vr n), (3, vr out), (4, vi i)]) (st2 := [vr b, vi i]) kL_law_23 rfl ?_
  refine q_al eL_law_26 sb (by decide) ?_
  refine q_blk (lv2 := [(0, vr b), (1, vr o), (2, vr n), (3, vr out), (4, vi i)]) (st2 := [vi (len - 6), vi i]) kL_law_27 rfl ?_
  refine AQ.ic_gt (tgt := 1588) eL_law_30 (by decide) ⟨by omega, by omega⟩ ⟨by omega, by omega⟩ (fun c => ?_) (fun c => ?_)
  · refine q_blk (lv2 := [(0, vr b), (1, vr o), (2, vr n), (3, vr out), (4, vi i)]) (st2 := [vi 1]) kL_law_1588 rfl ?_
    exact q_rz rfl eL_law_1589 (Or.inr rfl) ⟨rfl, by omega, by omega⟩
  · have S : SKR h b o len g i := ⟨⟨G, sb⟩, bo, i0, by omega, l0.2, hg⟩
    have kk : ∀ h1, JI w h1 o n out → JG o h h1 → AQ w (mL nm T) 24 1582 [(0, vr b), (1, vr o), (2, vr n), (3, vr out), (4, vi i)] [] h1 (fun r h' => r = .inl (some (vi 1)) ∧ (h'.2.1 ≤ h0.2.1 + 6156 ∧ h'.2.2 ≤ h0.2.2 + 4924800)) := by
      intro h1 J1 gg
      have gb := gg.1
      refine q_blk (lv2 := [(0, vr b), (1, vr o), (2, vr n), (3, vr out), (4, vi (i + 6))]) (st2 := []) kL_law_1582 rfl ?_
      refine q_goto (tgt := 23) eL_law_1585 (by decide) ?_
      exact ih (i + 6) h1 ⟨⟨J1, G, (gg.2 b bo).trans sb⟩, ⟨by omega, by omega⟩, by omega, by omega⟩ (by omega)
    refine q_blk (lv2 := [(0, vr b), (1, vr o), (2, vr n), (3, vr out), (4, vi i)]) (st2 := [vi i, vr b]) kL_law_33 rfl ?_
    refine q_ia eL_law_36 sb (Or.inr rfl) (by omega) (by omega) rfl ?_
    refine q_blk (lv2 := [(0, vr b), (1, vr o), (2, vr n), (3, vr out), (4, vi i)]) (st2 := [vi 31, vi (g i)]) kL_law_37 rfl ?_
    refine AQ.of (AS.iand31 eL_law_39) ?_
    have z : g i % 32 = 0 ∨ g i % 32 = 1 ∨ g i % 32 = 2 ∨ g i % 32 = 3 ∨ g i % 32 = 4 ∨ g i % 32 = 5 ∨ g i % 32 = 6 ∨ g i % 32 = 7 ∨ g i % 32 = 8 ∨ g i % 32 = 9 ∨ g i % 32 = 10 ∨ g i % 32 = 11 ∨ g i % 32 = 12 ∨ g i % 32 = 13 ∨ g i % 32 = 14 ∨ g i % 32 = 15 ∨ g i % 32 = 16 ∨ g i % 32 = 17 ∨ g i % 32 = 18 ∨ g i % 32 = 19 ∨ g i % 32 = 20 ∨ g i % 32 = 21 ∨ g i % 32 = 22 ∨ g i % 32 = 23 ∨ g i % 32 = 24 ∨ (24 < g i % 32 ∧ g i % 32 < 32) := by omega
    rcases z with e | e | e | e | e | e | e | e | e | e | e | e | e | e | e | e | e | e | e | e | e | e | e | e | e | e <;> first | rw [e] | skip
    · exact AQ.of (AS.tabIn (tgt := 156) (off := 116) eL_law_40 ⟨by decide, by decide⟩ (by decide) (by decide) (by decide) (by decide)) (j_append J S kk)
    · exact AQ.of (AS.tabIn (tgt := 229) (off := 189) eL_law_40 ⟨by decide, by decide⟩ (by decide) (by decide) (by decide) (by decide)) (j_load J S kk)
    · exact AQ.of (AS.tabIn (tgt := 285) (off := 245) eL_law_40 ⟨by decide, by decide⟩ (by decide) (by decide) (by decide) (by decide)) (j_errorOffset J S kk)
    · exact AQ.of (AS.tabIn (tgt := 298) (off := 258) eL_law_40 ⟨by decide, by decide⟩ (by decide) (by decide) (by decide) (by decide)) (j_count J S kk)
    · exact AQ.of (AS.tabIn (tgt := 354) (off := 314) eL_law_40 ⟨by decide, by decide⟩ (by decide) (by decide) (by decide) (by decide)) (j_stone J S kk)
    · exact AQ.of (AS.tabIn (tgt := 422) (off := 382) eL_law_40 ⟨by decide, by decide⟩ (by decide) (by decide) (by decide) (by decide)) (j_polygon J S kk)
    · exact AQ.of (AS.tabIn (tgt := 490) (off := 450) eL_law_40 ⟨by decide, by decide⟩ (by decide) (by decide) (by decide) (by decide)) (j_cornerAt J S kk)
    · exact AQ.of (AS.tabIn (tgt := 558) (off := 518) eL_law_40 ⟨by decide, by decide⟩ (by decide) (by decide) (by decide) (by decide)) (j_reason J S kk)
    · exact AQ.of (AS.tabIn (tgt := 638) (off := 598) eL_law_40 ⟨by decide, by decide⟩ (by decide) (by decide) (by decide) (by decide)) (j_where J S kk)
    · exact AQ.of (AS.tabIn (tgt := 718) (off := 678) eL_law_40 ⟨by decide, by decide⟩ (by decide) (by decide) (by decide) (by decide)) (j_area J S kk)
    · exact AQ.of (AS.tabIn (tgt := 774) (off := 734) eL_law_40 ⟨by decide, by decide⟩ (by decide) (by decide) (by decide) (by decide)) (j_border J S kk)
    · exact AQ.of (AS.tabIn (tgt := 830) (off := 790) eL_law_40 ⟨by decide, by decide⟩ (by decide) (by decide) (by decide) (by decide)) (j_inner J S kk)
    · exact AQ.of (AS.tabIn (tgt := 886) (off := 846) eL_law_40 ⟨by decide, by decide⟩ (by decide) (by decide) (by decide) (by decide)) (j_dents J S kk)
    · exact AQ.of (AS.tabIn (tgt := 942) (off := 902) eL_law_40 ⟨by decide, by decide⟩ (by decide) (by decide) (by decide) (by decide)) (j_parent J S kk)
    · exact AQ.of (AS.tabIn (tgt := 998) (off := 958) eL_law_40 ⟨by decide, by decide⟩ (by decide) (by decide) (by decide) (by decide)) (j_score J S kk)
    · exact AQ.of (AS.tabIn (tgt := 1054) (off := 1014) eL_law_40 ⟨by decide, by decide⟩ (by decide) (by decide) (by decide) (by decide)) (j_points J S kk)
    · exact AQ.of (AS.tabIn (tgt := 1110) (off := 1070) eL_law_40 ⟨by decide, by decide⟩ (by decide) (by decide) (by decide) (by decide)) (j_leader J S kk)
    · exact AQ.of (AS.tabIn (tgt := 1123) (off := 1083) eL_law_40 ⟨by decide, by decide⟩ (by decide) (by decide) (by decide) (by decide)) (j_begin J S kk)
    · exact AQ.of (AS.tabIn (tgt := 1203) (off := 1163) eL_law_40 ⟨by decide, by decide⟩ (by decide) (by decide) (by decide) (by decide)) (j_corner J S kk)
    · exact AQ.of (AS.tabIn (tgt := 1283) (off := 1243) eL_law_40 ⟨by decide, by decide⟩ (by decide) (by decide) (by decide) (by decide)) (j_close J S kk)
    · exact AQ.of (AS.tabIn (tgt := 1339) (off := 1299) eL_law_40 ⟨by decide, by decide⟩ (by decide) (by decide) (by decide) (by decide)) (j_bend J S kk)
    · exact AQ.of (AS.tabIn (tgt := 1431) (off := 1391) eL_law_40 ⟨by decide, by decide⟩ (by decide) (by decide) (by decide) (by decide)) (j_takeOut J S kk)
    · exact AQ.of (AS.tabIn (tgt := 1499) (off := 1459) eL_law_40 ⟨by decide, by decide⟩ (by decide) (by decide) (by decide) (by decide)) (j_remove J S kk)
    · exact AQ.of (AS.tabIn (tgt := 1555) (off := 1515) eL_law_40 ⟨by decide, by decide⟩ (by decide) (by decide) (by decide) (by decide)) (j_undo J S kk)
    · exact AQ.of (AS.tabIn (tgt := 1568) (off := 1528) eL_law_40 ⟨by decide, by decide⟩ (by decide) (by decide) (by decide) (by decide)) (j_checksum J S kk)
    · exact AQ.of (AS.tabOut (tgt := 1582) eL_law_40 ⟨by omega, by omega⟩ (Or.inr e.1) (by decide)) (kk h J ⟨⟨Nat.le_refl _, Nat.le_add_right _ _, Nat.le_refl _, Nat.le_add_right _ _⟩, fun _ _ => rfl⟩)
