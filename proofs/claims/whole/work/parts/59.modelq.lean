/-! CornerClaimsModel: what it is asked. -/
theorem am_b0 {P : Prop} (h : am_b 0 P) : ¬ P := by
  rcases h with q | q
  · exact absurd q.1 (by decide)
  · exact q.2
theorem gm_cnt_d {D cm : Int → Int} {q : Int} (h : 0 ≤ q ∧ q ≤ 3) : gA_cnt D cm q (.inl (D q)) := by
  rcases (show q = 0 ∨ q = 1 ∨ q = 2 ∨ q = 3 by omega) with rfl | rfl | rfl | rfl
  · exact Or.inl ⟨rfl, rfl⟩
  · exact Or.inr (Or.inl ⟨rfl, rfl⟩)
  · exact Or.inr (Or.inr (Or.inl ⟨rfl, rfl⟩))
  · exact Or.inr (Or.inr (Or.inr (Or.inl ⟨rfl, rfl⟩)))
theorem gm_sto_d {D cm : Int → Int} {k q : Int} (hk : 0 ≤ k ∧ k < D 2) (h : 0 ≤ q ∧ q ≤ 2) : gA_sto D cm k q (.inl (D (6 + 3 * k + q))) := by
  refine Or.inr ⟨hk, ?_⟩
  rcases (show q = 0 ∨ q = 1 ∨ q = 2 by omega) with rfl | rfl | rfl
  · exact Or.inl ⟨rfl, congrArg Sum.inl (congrArg D (by omega))⟩
  · exact Or.inr (Or.inl ⟨rfl, congrArg Sum.inl (congrArg D (by omega))⟩)
  · exact Or.inr (Or.inr (Or.inl ⟨rfl, congrArg Sum.inl (congrArg D (by omega))⟩))
theorem gm_pol_d {D : Int → Int} {p q : Int} (h : 0 ≤ q ∧ q ≤ 2) : gA_pol D p q (.inl (D (66 + 27 * p + q))) := by
  rcases (show q = 0 ∨ q = 1 ∨ q = 2 by omega) with rfl | rfl | rfl
  · exact Or.inl ⟨rfl, congrArg Sum.inl (congrArg D (by omega))⟩
  · exact Or.inr (Or.inl ⟨rfl, congrArg Sum.inl (congrArg D (by omega))⟩)
  · exact Or.inr (Or.inr (Or.inl ⟨rfl, congrArg Sum.inl (congrArg D (by omega))⟩))

/-! its answers -/
set_option maxHeartbeats 1000000 in
theorem c_X9_errorOffset {w : am_w} {h : AH} {n : Nat} {th bl eo ud : Int} {bf : Int → Int} {rw : Int → Int → Int} {D : Int → Int} (hA : MA h n th bl eo ud bf rw D) (hD : VD D)  : AE w m_X9_errorOffset 1 [vr n] h (am_int (fun z h1 => ∃ th' r, (fun r => r = .inl eo) r ∧ gm_an (fun _ => 1) r th' z ∧ MA h1 n th' bl eo ud bf rw D ∧ am_fr h h1 n (n + 14))) := by
  refine AE.of wf_X9_errorOffset (Nat.le_of_ble_eq_true rfl) (am_ok_i) ?_
  obtain ⟨tl, ps, er, ea, g0, g1, g2, g3, ns, ne, se, od, sk, hm, hR, hK⟩ := hA
  obtain ⟨m0, m1⟩ := id hm
  have d0 := hD.1
  have d1 := hD.2.1
  have d2 := hD.2.2.1
  have d3 := hD.2.2.2.1
  refine q_blk (lv2 := [(0, vr n)]) (st2 := [vi 0, vr n]) kX9_errorOffset_0 rfl ?_
  refine q_pi eX9_errorOffset_2 fl_RX9_32 (fun q hq => by cases hq; exact Or.inl rfl) (Or.inl rfl) m0 (Nat.le_of_ble_eq_true rfl) (l2 := [0, 0, bl, tl, ps, er, ea, eo, 0, 0, 0, ud, g0, g1, g2, g3, ns, ne, se, 0]) rfl (fun h1 e2 => ?_)
  have k3 := am_at e2
  have k4 := (am_ne e2 (n + 2) (by omega)).trans m1
  have k5 := (am_ne e2 (n + 13) (by omega)).trans hK
  have M5 : MM h1 n 0 bl tl ps er ea eo ud g0 g1 g2 g3 ns ne se D := ⟨k3, k4⟩
  have F5 : am_fr h h1 n (n + 1) := am_fr.st e2 (by omega) (by omega)
  have Vh1 : am_fr h h1 n (n + 14) := am_fr.mo F5 (by omega) (by omega)
  have Rh1 := hR.kept F5 (by omega)
  have Kh1 := (F5.2 (n + 13) (by omega)).trans hK
  obtain ⟨m0h1, m1h1⟩ := id M5
  refine q_blk (lv2 := [(0, vr n)]) (st2 := [vr n]) kX9_errorOffset_5 rfl ?_
  refine q_gi eX9_errorOffset_6 fl_RX9_13 (Or.inl rfl) m0h1 (z := eo) rfl ?_
  exact q_ri rfl eX9_errorOffset_9 ⟨eo, rfl, 0, .inl eo, rfl, Or.inl ⟨_, rfl, rfl, rfl⟩, ⟨_, _, _, _, _, _, _, _, _, _, _, _, _, M5, Rh1, Kh1⟩, Vh1⟩

set_option maxHeartbeats 1000000 in
theorem c_X9_area {w : am_w} {h : AH} {n : Nat} {th bl eo ud : Int} {bf : Int → Int} {rw : Int → Int → Int} {D : Int → Int} (hA : MA h n th bl eo ud bf rw D) (hD : VD D) {p : Int} (r_p : am_r p)  : AE w m_X9_area 8 [vr n, vi p] h (am_int (fun z h1 => ∃ th' r, (gA_p D p (gA_c D p (gA_z (fun z => z = gm_arD D p)))) r ∧ gm_an (fun k => if k = 2 then 1 else 2) r th' z ∧ MA h1 n th' bl eo ud bf rw D ∧ am_fr h h1 n (n + 14))) := by
  refine AE.of wf_X9_area (Nat.le_of_ble_eq_true rfl) (am_ok_i) ?_
  obtain ⟨tl, ps, er, ea, g0, g1, g2, g3, ns, ne, se, od, sk, hm, hR, hK⟩ := hA
  obtain ⟨m0, m1⟩ := id hm
  have d0 := hD.1
  have d1 := hD.2.1
  have d2 := hD.2.2.1
  have d3 := hD.2.2.2.1
  refine q_blk (lv2 := [(0, vr n), (1, vi p)]) (st2 := [vi 0, vr n]) kX9_area_0 rfl ?_
  refine q_pi eX9_area_2 fl_RX9_32 (fun q hq => by cases hq; exact Or.inl rfl) (Or.inl rfl) m0 (Nat.le_of_ble_eq_true rfl) (l2 := [0, 0, bl, tl, ps, er, ea, eo, 0, 0, 0, ud, g0, g1, g2, g3, ns, ne, se, 0]) rfl (fun h1 e2 => ?_)
  have k3 := am_at e2
  have k4 := (am_ne e2 (n + 2) (by omega)).trans m1
  have k5 := (am_ne e2 (n + 13) (by omega)).trans hK
  have M5 : MM h1 n 0 bl tl ps er ea eo ud g0 g1 g2 g3 ns ne se D := ⟨k3, k4⟩
  have F5 : am_fr h h1 n (n + 1) := am_fr.st e2 (by omega) (by omega)
  have Vh1 : am_fr h h1 n (n + 14) := am_fr.mo F5 (by omega) (by omega)
  have Rh1 := hR.kept F5 (by omega)
  have Kh1 := (F5.2 (n + 13) (by omega)).trans hK
  obtain ⟨m0h1, m1h1⟩ := id M5
  refine q_blk (lv2 := [(0, vr n), (1, vi p)]) (st2 := [vi p, vr n]) kX9_area_5 rfl ?_
  refine AQ.callVi (av := [vi p]) (st := []) (c_X9_noClosed M5 hD (by first | assumption | exact ⟨by omega, by omega⟩)) lk_RX9_309 (by decide) rfl rfl M5.ob ⟨_, rfl, rfl⟩ (Nat.le_of_ble_eq_true rfl) eX9_area_7 (fun z6 h8 e7 => ?_)
  rcases e7 with ⟨Bh8, ⟨thh8, ⟨rfl, rfl⟩ | ⟨rfl, rfl, Th8⟩ | ⟨rfl, rfl, Th8⟩, Mh8⟩, Fh8⟩
  · skip
    have Ch8 := am_b0 Bh8
    have Vh8 : am_fr h h8 n (n + 14) := am_fr.tr Vh1 (am_fr.mo Fh8 (by omega) (by omega))
    have Rh8 := Rh1.kept Fh8 (by omega)
    have Kh8 := (Fh8.2 (n + 13) (by omega)).trans Kh1
    obtain ⟨m0h8, m1h8⟩ := id Mh8
    refine AQ.of (AS.if_eq_t (tgt := 17) eX9_area_10 (by decide) ⟨by decide, by decide⟩ (by decide)) ?_
    refine q_blk (lv2 := [(0, vr n), (1, vi p)]) (st2 := [vi p, vr n]) kX9_area_17 rfl ?_
    refine q_Vi (av := [vi p]) (st := []) (c_X9_areaOf Mh8 hD (by omega) (by omega)) lk_RX9_264 (by decide) rfl rfl Mh8.ob ⟨_, rfl, rfl⟩ (Nat.le_of_ble_eq_true rfl) eX9_area_19 (fun z9 e10 => ?_)
    have ab9 := e10.2
    exact q_ri rfl eX9_area_22 ⟨z9, rfl, 0, .inl z9, Or.inr ⟨⟨by omega, by omega⟩, Or.inr ⟨by omega, _, e10.1, rfl⟩⟩, Or.inl ⟨_, rfl, rfl, rfl⟩, ⟨_, _, _, _, _, _, _, _, _, _, _, _, _, Mh8, Rh8, Kh8⟩, Vh8⟩
  · skip
    have Vh8 : am_fr h h8 n (n + 14) := am_fr.tr Vh1 (am_fr.mo Fh8 (by omega) (by omega))
    have Rh8 := Rh1.kept Fh8 (by omega)
    have Kh8 := (Fh8.2 (n + 13) (by omega)).trans Kh1
    obtain ⟨m0h8, m1h8⟩ := id Mh8
    refine AQ.of (AS.if_eq_f eX9_area_10 ⟨by decide, by decide⟩ (by decide) (by decide)) ?_
    refine q_blk (lv2 := [(0, vr n), (1, vi p)]) (st2 := [vi 0]) kX9_area_13 rfl ?_
    refine q_goto (tgt := 22) eX9_area_14 (by decide) ?_
    exact q_ri rfl eX9_area_22 ⟨0, rfl, 1, .inr 2, Or.inl ⟨by omega, rfl⟩, Or.inr ⟨_, rfl, rfl⟩, ⟨_, _, _, _, _, _, _, _, _, _, _, _, _, Mh8, Rh8, Kh8⟩, Vh8⟩
  · skip
    have Vh8 : am_fr h h8 n (n + 14) := am_fr.tr Vh1 (am_fr.mo Fh8 (by omega) (by omega))
    have Rh8 := Rh1.kept Fh8 (by omega)
    have Kh8 := (Fh8.2 (n + 13) (by omega)).trans Kh1
    obtain ⟨m0h8, m1h8⟩ := id Mh8
    refine AQ.of (AS.if_eq_f eX9_area_10 ⟨by decide, by decide⟩ (by decide) (by decide)) ?_
    refine q_blk (lv2 := [(0, vr n), (1, vi p)]) (st2 := [vi 0]) kX9_area_13 rfl ?_
    refine q_goto (tgt := 22) eX9_area_14 (by decide) ?_
    exact q_ri rfl eX9_area_22 ⟨0, rfl, 2, .inr 3, Or.inr ⟨⟨by omega, by omega⟩, Or.inl ⟨by omega, rfl⟩⟩, Or.inr ⟨_, rfl, rfl⟩, ⟨_, _, _, _, _, _, _, _, _, _, _, _, _, Mh8, Rh8, Kh8⟩, Vh8⟩

set_option maxHeartbeats 1000000 in
theorem c_X9_border {w : am_w} {h : AH} {n : Nat} {th bl eo ud : Int} {bf : Int → Int} {rw : Int → Int → Int} {D : Int → Int} (hA : MA h n th bl eo ud bf rw D) (hD : VD D) {p : Int} (r_p : am_r p)  : AE w m_X9_border 8 [vr n, vi p] h (am_int (fun z h1 => ∃ th' r, (gA_p D p (gA_c D p (gA_z (fun z => z = gm_ca D p 1)))) r ∧ gm_an (fun k => if k = 2 then 1 else 2) r th' z ∧ MA h1 n th' bl eo ud bf rw D ∧ am_fr h h1 n (n + 14))) := by
  refine AE.of wf_X9_border (Nat.le_of_ble_eq_true rfl) (am_ok_i) ?_
  obtain ⟨tl, ps, er, ea, g0, g1, g2, g3, ns, ne, se, od, sk, hm, hR, hK⟩ := hA
  obtain ⟨m0, m1⟩ := id hm
  have d0 := hD.1
  have d1 := hD.2.1
  have d2 := hD.2.2.1
  have d3 := hD.2.2.2.1
  refine q_blk (lv2 := [(0, vr n), (1, vi p)]) (st2 := [vi 0, vr n]) kX9_border_0 rfl ?_
  refine q_pi eX9_border_2 fl_RX9_32 (fun q hq => by cases hq; exact Or.inl rfl) (Or.inl rfl) m0 (Nat.le_of_ble_eq_true rfl) (l2 := [0, 0, bl, tl, ps, er, ea, eo, 0, 0, 0, ud, g0, g1, g2, g3, ns, ne, se, 0]) rfl (fun h1 e2 => ?_)
  have k3 := am_at e2
  have k4 := (am_ne e2 (n + 2) (by omega)).trans m1
  have k5 := (am_ne e2 (n + 13) (by omega)).trans hK
  have M5 : MM h1 n 0 bl tl ps er ea eo ud g0 g1 g2 g3 ns ne se D := ⟨k3, k4⟩
  have F5 : am_fr h h1 n (n + 1) := am_fr.st e2 (by omega) (by omega)
  have Vh1 : am_fr h h1 n (n + 14) := am_fr.mo F5 (by omega) (by omega)
  have Rh1 := hR.kept F5 (by omega)
  have Kh1 := (F5.2 (n + 13) (by omega)).trans hK
  obtain ⟨m0h1, m1h1⟩ := id M5
  refine q_blk (lv2 := [(0, vr n), (1, vi p)]) (st2 := [vi p, vr n]) kX9_border_5 rfl ?_
  refine AQ.callVi (av := [vi p]) (st := []) (c_X9_noClosed M5 hD (by first | assumption | exact ⟨by omega, by omega⟩)) lk_RX9_309 (by decide) rfl rfl M5.ob ⟨_, rfl, rfl⟩ (Nat.le_of_ble_eq_true rfl) eX9_border_7 (fun z6 h8 e7 => ?_)
  rcases e7 with ⟨Bh8, ⟨thh8, ⟨rfl, rfl⟩ | ⟨rfl, rfl, Th8⟩ | ⟨rfl, rfl, Th8⟩, Mh8⟩, Fh8⟩
  · skip
    have Ch8 := am_b0 Bh8
    have Vh8 : am_fr h h8 n (n + 14) := am_fr.tr Vh1 (am_fr.mo Fh8 (by omega) (by omega))
    have Rh8 := Rh1.kept Fh8 (by omega)
    have Kh8 := (Fh8.2 (n + 13) (by omega)).trans Kh1
    obtain ⟨m0h8, m1h8⟩ := id Mh8
    refine AQ.of (AS.if_eq_t (tgt := 17) eX9_border_10 (by decide) ⟨by decide, by decide⟩ (by decide)) ?_
    refine q_blk (lv2 := [(0, vr n), (1, vi p)]) (st2 := [vi 1, vi p, vr n]) kX9_border_17 rfl ?_
    refine q_Vi (av := [vi p, vi 1]) (st := []) (c_X9_countAll Mh8 hD (by omega) (by omega) (sd := 1) (by first | assumption | exact ⟨by omega, by omega⟩)) lk_RX9_284 (by decide) rfl rfl Mh8.ob ⟨_, rfl, rfl⟩ (Nat.le_of_ble_eq_true rfl) eX9_border_20 (fun z9 e10 => ?_)
    have ca9 := e10.2
    exact q_ri rfl eX9_border_23 ⟨z9, rfl, 0, .inl z9, Or.inr ⟨⟨by omega, by omega⟩, Or.inr ⟨by omega, _, e10.1, rfl⟩⟩, Or.inl ⟨_, rfl, rfl, rfl⟩, ⟨_, _, _, _, _, _, _, _, _, _, _, _, _, Mh8, Rh8, Kh8⟩, Vh8⟩
  · skip
    have Vh8 : am_fr h h8 n (n + 14) := am_fr.tr Vh1 (am_fr.mo Fh8 (by omega) (by omega))
    have Rh8 := Rh1.kept Fh8 (by omega)
    have Kh8 := (Fh8.2 (n + 13) (by omega)).trans Kh1
    obtain ⟨m0h8, m1h8⟩ := id Mh8
    refine AQ.of (AS.if_eq_f eX9_border_10 ⟨by decide, by decide⟩ (by decide) (by decide)) ?_
    refine q_blk (lv2 := [(0, vr n), (1, vi p)]) (st2 := [vi 0]) kX9_border_13 rfl ?_
    refine q_goto (tgt := 23) eX9_border_14 (by decide) ?_
    exact q_ri rfl eX9_border_23 ⟨0, rfl, 1, .inr 2, Or.inl ⟨by omega, rfl⟩, Or.inr ⟨_, rfl, rfl⟩, ⟨_, _, _, _, _, _, _, _, _, _, _, _, _, Mh8, Rh8, Kh8⟩, Vh8⟩
  · skip
    have Vh8 : am_fr h h8 n (n + 14) := am_fr.tr Vh1 (am_fr.mo Fh8 (by omega) (by omega))
    have Rh8 := Rh1.kept Fh8 (by omega)
    have Kh8 := (Fh8.2 (n + 13) (by omega)).trans Kh1
    obtain ⟨m0h8, m1h8⟩ := id Mh8
    refine AQ.of (AS.if_eq_f eX9_border_10 ⟨by decide, by decide⟩ (by decide) (by decide)) ?_
    refine q_blk (lv2 := [(0, vr n), (1, vi p)]) (st2 := [vi 0]) kX9_border_13 rfl ?_
    refine q_goto (tgt := 23) eX9_border_14 (by decide) ?_
    exact q_ri rfl eX9_border_23 ⟨0, rfl, 2, .inr 3, Or.inr ⟨⟨by omega, by omega⟩, Or.inl ⟨by omega, rfl⟩⟩, Or.inr ⟨_, rfl, rfl⟩, ⟨_, _, _, _, _, _, _, _, _, _, _, _, _, Mh8, Rh8, Kh8⟩, Vh8⟩

set_option maxHeartbeats 1000000 in
theorem c_X9_inner {w : am_w} {h : AH} {n : Nat} {th bl eo ud : Int} {bf : Int → Int} {rw : Int → Int → Int} {D : Int → Int} (hA : MA h n th bl eo ud bf rw D) (hD : VD D) {p : Int} (r_p : am_r p)  : AE w m_X9_inner 8 [vr n, vi p] h (am_int (fun z h1 => ∃ th' r, (gA_p D p (gA_c D p (gA_z (fun z => z = gm_ca D p 2)))) r ∧ gm_an (fun k => if k = 2 then 1 else 2) r th' z ∧ MA h1 n th' bl eo ud bf rw D ∧ am_fr h h1 n (n + 14))) := by
  refine AE.of wf_X9_inner (Nat.le_of_ble_eq_true rfl) (am_ok_i) ?_
  obtain ⟨tl, ps, er, ea, g0, g1, g2, g3, ns, ne, se, od, sk, hm, hR, hK⟩ := hA
  obtain ⟨m0, m1⟩ := id hm
  have d0 := hD.1
  have d1 := hD.2.1
  have d2 := hD.2.2.1
  have d3 := hD.2.2.2.1
  refine q_blk (lv2 := [(0, vr n), (1, vi p)]) (st2 := [vi 0, vr n]) kX9_inner_0 rfl ?_
  refine q_pi eX9_inner_2 fl_RX9_32 (fun q hq => by cases hq; exact Or.inl rfl) (Or.inl rfl) m0 (Nat.le_of_ble_eq_true rfl) (l2 := [0, 0, bl, tl, ps, er, ea, eo, 0, 0, 0, ud, g0, g1, g2, g3, ns, ne, se, 0]) rfl (fun h1 e2 => ?_)
  have k3 := am_at e2
  have k4 := (am_ne e2 (n + 2) (by omega)).trans m1
  have k5 := (am_ne e2 (n + 13) (by omega)).trans hK
  have M5 : MM h1 n 0 bl tl ps er ea eo ud g0 g1 g2 g3 ns ne se D := ⟨k3, k4⟩
  have F5 : am_fr h h1 n (n + 1) := am_fr.st e2 (by omega) (by omega)
  have Vh1 : am_fr h h1 n (n + 14) := am_fr.mo F5 (by omega) (by omega)
  have Rh1 := hR.kept F5 (by omega)
  have Kh1 := (F5.2 (n + 13) (by omega)).trans hK
  obtain ⟨m0h1, m1h1⟩ := id M5
  refine q_blk (lv2 := [(0, vr n), (1, vi p)]) (st2 := [vi p, vr n]) kX9_inner_5 rfl ?_
  refine AQ.callVi (av := [vi p]) (st := []) (c_X9_noClosed M5 hD (by first | assumption | exact ⟨by omega, by omega⟩)) lk_RX9_309 (by decide) rfl rfl M5.ob ⟨_, rfl, rfl⟩ (Nat.le_of_ble_eq_true rfl) eX9_inner_7 (fun z6 h8 e7 => ?_)
  rcases e7 with ⟨Bh8, ⟨thh8, ⟨rfl, rfl⟩ | ⟨rfl, rfl, Th8⟩ | ⟨rfl, rfl, Th8⟩, Mh8⟩, Fh8⟩
  · skip
    have Ch8 := am_b0 Bh8
    have Vh8 : am_fr h h8 n (n + 14) := am_fr.tr Vh1 (am_fr.mo Fh8 (by omega) (by omega))
    have Rh8 := Rh1.kept Fh8 (by omega)
    have Kh8 := (Fh8.2 (n + 13) (by omega)).trans Kh1
    obtain ⟨m0h8, m1h8⟩ := id Mh8
    refine AQ.of (AS.if_eq_t (tgt := 17) eX9_inner_10 (by decide) ⟨by decide, by decide⟩ (by decide)) ?_
    refine q_blk (lv2 := [(0, vr n), (1, vi p)]) (st2 := [vi 2, vi p, vr n]) kX9_inner_17 rfl ?_
    refine q_Vi (av := [vi p, vi 2]) (st := []) (c_X9_countAll Mh8 hD (by omega) (by omega) (sd := 2) (by first | assumption | exact ⟨by omega, by omega⟩)) lk_RX9_284 (by decide) rfl rfl Mh8.ob ⟨_, rfl, rfl⟩ (Nat.le_of_ble_eq_true rfl) eX9_inner_20 (fun z9 e10 => ?_)
    have ca9 := e10.2
    exact q_ri rfl eX9_inner_23 ⟨z9, rfl, 0, .inl z9, Or.inr ⟨⟨by omega, by omega⟩, Or.inr ⟨by omega, _, e10.1, rfl⟩⟩, Or.inl ⟨_, rfl, rfl, rfl⟩, ⟨_, _, _, _, _, _, _, _, _, _, _, _, _, Mh8, Rh8, Kh8⟩, Vh8⟩
  · skip
    have Vh8 : am_fr h h8 n (n + 14) := am_fr.tr Vh1 (am_fr.mo Fh8 (by omega) (by omega))
    have Rh8 := Rh1.kept Fh8 (by omega)
    have Kh8 := (Fh8.2 (n + 13) (by omega)).trans Kh1
    obtain ⟨m0h8, m1h8⟩ := id Mh8
    refine AQ.of (AS.if_eq_f eX9_inner_10 ⟨by decide, by decide⟩ (by decide) (by decide)) ?_
    refine q_blk (lv2 := [(0, vr n), (1, vi p)]) (st2 := [vi 0]) kX9_inner_13 rfl ?_
    refine q_goto (tgt := 23) eX9_inner_14 (by decide) ?_
    exact q_ri rfl eX9_inner_23 ⟨0, rfl, 1, .inr 2, Or.inl ⟨by omega, rfl⟩, Or.inr ⟨_, rfl, rfl⟩, ⟨_, _, _, _, _, _, _, _, _, _, _, _, _, Mh8, Rh8, Kh8⟩, Vh8⟩
  · skip
    have Vh8 : am_fr h h8 n (n + 14) := am_fr.tr Vh1 (am_fr.mo Fh8 (by omega) (by omega))
    have Rh8 := Rh1.kept Fh8 (by omega)
    have Kh8 := (Fh8.2 (n + 13) (by omega)).trans Kh1
    obtain ⟨m0h8, m1h8⟩ := id Mh8
    refine AQ.of (AS.if_eq_f eX9_inner_10 ⟨by decide, by decide⟩ (by decide) (by decide)) ?_
    refine q_blk (lv2 := [(0, vr n), (1, vi p)]) (st2 := [vi 0]) kX9_inner_13 rfl ?_
    refine q_goto (tgt := 23) eX9_inner_14 (by decide) ?_
    exact q_ri rfl eX9_inner_23 ⟨0, rfl, 2, .inr 3, Or.inr ⟨⟨by omega, by omega⟩, Or.inl ⟨by omega, rfl⟩⟩, Or.inr ⟨_, rfl, rfl⟩, ⟨_, _, _, _, _, _, _, _, _, _, _, _, _, Mh8, Rh8, Kh8⟩, Vh8⟩

set_option maxHeartbeats 1000000 in
theorem c_X9_dents {w : am_w} {h : AH} {n : Nat} {th bl eo ud : Int} {bf : Int → Int} {rw : Int → Int → Int} {D : Int → Int} (hA : MA h n th bl eo ud bf rw D) (hD : VD D) {p : Int} (r_p : am_r p)  : AE w m_X9_dents 8 [vr n, vi p] h (am_int (fun z h1 => ∃ th' r, (gA_p D p (gA_c D p (gA_z (fun z => z = gm_de (pN D p) (pX D p) (pY D p))))) r ∧ gm_an (fun k => if k = 2 then 1 else 2) r th' z ∧ MA h1 n th' bl eo ud bf rw D ∧ am_fr h h1 n (n + 14))) := by
  refine AE.of wf_X9_dents (Nat.le_of_ble_eq_true rfl) (am_ok_i) ?_
  obtain ⟨tl, ps, er, ea, g0, g1, g2, g3, ns, ne, se, od, sk, hm, hR, hK⟩ := hA
  obtain ⟨m0, m1⟩ := id hm
  have d0 := hD.1
  have d1 := hD.2.1
  have d2 := hD.2.2.1
  have d3 := hD.2.2.2.1
  refine q_blk (lv2 := [(0, vr n), (1, vi p)]) (st2 := [vi 0, vr n]) kX9_dents_0 rfl ?_
  refine q_pi eX9_dents_2 fl_RX9_32 (fun q hq => by cases hq; exact Or.inl rfl) (Or.inl rfl) m0 (Nat.le_of_ble_eq_true rfl) (l2 := [0, 0, bl, tl, ps, er, ea, eo, 0, 0, 0, ud, g0, g1, g2, g3, ns, ne, se, 0]) rfl (fun h1 e2 => ?_)
  have k3 := am_at e2
  have k4 := (am_ne e2 (n + 2) (by omega)).trans m1
  have k5 := (am_ne e2 (n + 13) (by omega)).trans hK
  have M5 : MM h1 n 0 bl tl ps er ea eo ud g0 g1 g2 g3 ns ne se D := ⟨k3, k4⟩
  have F5 : am_fr h h1 n (n + 1) := am_fr.st e2 (by omega) (by omega)
  have Vh1 : am_fr h h1 n (n + 14) := am_fr.mo F5 (by omega) (by omega)
  have Rh1 := hR.kept F5 (by omega)
  have Kh1 := (F5.2 (n + 13) (by omega)).trans hK
  obtain ⟨m0h1, m1h1⟩ := id M5
  refine q_blk (lv2 := [(0, vr n), (1, vi p)]) (st2 := [vi p, vr n]) kX9_dents_5 rfl ?_
  refine AQ.callVi (av := [vi p]) (st := []) (c_X9_noClosed M5 hD (by first | assumption | exact ⟨by omega, by omega⟩)) lk_RX9_309 (by decide) rfl rfl M5.ob ⟨_, rfl, rfl⟩ (Nat.le_of_ble_eq_true rfl) eX9_dents_7 (fun z6 h8 e7 => ?_)
  rcases e7 with ⟨Bh8, ⟨thh8, ⟨rfl, rfl⟩ | ⟨rfl, rfl, Th8⟩ | ⟨rfl, rfl, Th8⟩, Mh8⟩, Fh8⟩
  · skip
    have Ch8 := am_b0 Bh8
    have Vh8 : am_fr h h8 n (n + 14) := am_fr.tr Vh1 (am_fr.mo Fh8 (by omega) (by omega))
    have Rh8 := Rh1.kept Fh8 (by omega)
    have Kh8 := (Fh8.2 (n + 13) (by omega)).trans Kh1
    obtain ⟨m0h8, m1h8⟩ := id Mh8
    refine AQ.of (AS.if_eq_t (tgt := 17) eX9_dents_10 (by decide) ⟨by decide, by decide⟩ (by decide)) ?_
    refine q_blk (lv2 := [(0, vr n), (1, vi p)]) (st2 := [vi p, vr n]) kX9_dents_17 rfl ?_
    refine q_Vi (av := [vi p]) (st := []) (c_X9_dentsOf Mh8 hD (by omega) (by omega)) lk_RX9_281 (by decide) rfl rfl Mh8.ob ⟨_, rfl, rfl⟩ (Nat.le_of_ble_eq_true rfl) eX9_dents_19 (fun z9 e10 => ?_)
    have de9 := e10.2
    exact q_ri rfl eX9_dents_22 ⟨z9, rfl, 0, .inl z9, Or.inr ⟨⟨by omega, by omega⟩, Or.inr ⟨by omega, _, e10.1, rfl⟩⟩, Or.inl ⟨_, rfl, rfl, rfl⟩, ⟨_, _, _, _, _, _, _, _, _, _, _, _, _, Mh8, Rh8, Kh8⟩, Vh8⟩
  · skip
    have Vh8 : am_fr h h8 n (n + 14) := am_fr.tr Vh1 (am_fr.mo Fh8 (by omega) (by omega))
    have Rh8 := Rh1.kept Fh8 (by omega)
    have Kh8 := (Fh8.2 (n + 13) (by omega)).trans Kh1
    obtain ⟨m0h8, m1h8⟩ := id Mh8
    refine AQ.of (AS.if_eq_f eX9_dents_10 ⟨by decide, by decide⟩ (by decide) (by decide)) ?_
    refine q_blk (lv2 := [(0, vr n), (1, vi p)]) (st2 := [vi 0]) kX9_dents_13 rfl ?_
    refine q_goto (tgt := 22) eX9_dents_14 (by decide) ?_
    exact q_ri rfl eX9_dents_22 ⟨0, rfl, 1, .inr 2, Or.inl ⟨by omega, rfl⟩, Or.inr ⟨_, rfl, rfl⟩, ⟨_, _, _, _, _, _, _, _, _, _, _, _, _, Mh8, Rh8, Kh8⟩, Vh8⟩
  · skip
    have Vh8 : am_fr h h8 n (n + 14) := am_fr.tr Vh1 (am_fr.mo Fh8 (by omega) (by omega))
    have Rh8 := Rh1.kept Fh8 (by omega)
    have Kh8 := (Fh8.2 (n + 13) (by omega)).trans Kh1
    obtain ⟨m0h8, m1h8⟩ := id Mh8
    refine AQ.of (AS.if_eq_f eX9_dents_10 ⟨by decide, by decide⟩ (by decide) (by decide)) ?_
    refine q_blk (lv2 := [(0, vr n), (1, vi p)]) (st2 := [vi 0]) kX9_dents_13 rfl ?_
    refine q_goto (tgt := 22) eX9_dents_14 (by decide) ?_
    exact q_ri rfl eX9_dents_22 ⟨0, rfl, 2, .inr 3, Or.inr ⟨⟨by omega, by omega⟩, Or.inl ⟨by omega, rfl⟩⟩, Or.inr ⟨_, rfl, rfl⟩, ⟨_, _, _, _, _, _, _, _, _, _, _, _, _, Mh8, Rh8, Kh8⟩, Vh8⟩

set_option maxHeartbeats 1000000 in
theorem c_X9_parent {w : am_w} {h : AH} {n : Nat} {th bl eo ud : Int} {bf : Int → Int} {rw : Int → Int → Int} {D : Int → Int} (hA : MA h n th bl eo ud bf rw D) (hD : VD D) {p : Int} (r_p : am_r p)  : AE w m_X9_parent 8 [vr n, vi p] h (am_int (fun z h1 => ∃ th' r, (gA_p D p (gA_c D p (gA_z (fun z => gm_smb D (pX D p 0) (pY D p 0) p (D 3).toNat z)))) r ∧ gm_an (fun k => if k = 2 then 1 else 2) r th' z ∧ MA h1 n th' bl eo ud bf rw D ∧ am_fr h h1 n (n + 14))) := by
  refine AE.of wf_X9_parent (Nat.le_of_ble_eq_true rfl) (am_ok_i) ?_
  obtain ⟨tl, ps, er, ea, g0, g1, g2, g3, ns, ne, se, od, sk, hm, hR, hK⟩ := hA
  obtain ⟨m0, m1⟩ := id hm
  have d0 := hD.1
  have d1 := hD.2.1
  have d2 := hD.2.2.1
  have d3 := hD.2.2.2.1
  refine q_blk (lv2 := [(0, vr n), (1, vi p)]) (st2 := [vi 0, vr n]) kX9_parent_0 rfl ?_
  refine q_pi eX9_parent_2 fl_RX9_32 (fun q hq => by cases hq; exact Or.inl rfl) (Or.inl rfl) m0 (Nat.le_of_ble_eq_true rfl) (l2 := [0, 0, bl, tl, ps, er, ea, eo, 0, 0, 0, ud, g0, g1, g2, g3, ns, ne, se, 0]) rfl (fun h1 e2 => ?_)
  have k3 := am_at e2
  have k4 := (am_ne e2 (n + 2) (by omega)).trans m1
  have k5 := (am_ne e2 (n + 13) (by omega)).trans hK
  have M5 : MM h1 n 0 bl tl ps er ea eo ud g0 g1 g2 g3 ns ne se D := ⟨k3, k4⟩
  have F5 : am_fr h h1 n (n + 1) := am_fr.st e2 (by omega) (by omega)
  have Vh1 : am_fr h h1 n (n + 14) := am_fr.mo F5 (by omega) (by omega)
  have Rh1 := hR.kept F5 (by omega)
  have Kh1 := (F5.2 (n + 13) (by omega)).trans hK
  obtain ⟨m0h1, m1h1⟩ := id M5
  refine q_blk (lv2 := [(0, vr n), (1, vi p)]) (st2 := [vi p, vr n]) kX9_parent_5 rfl ?_
  refine AQ.callVi (av := [vi p]) (st := []) (c_X9_noClosed M5 hD (by first | assumption | exact ⟨by omega, by omega⟩)) lk_RX9_309 (by decide) rfl rfl M5.ob ⟨_, rfl, rfl⟩ (Nat.le_of_ble_eq_true rfl) eX9_parent_7 (fun z6 h8 e7 => ?_)
  rcases e7 with ⟨Bh8, ⟨thh8, ⟨rfl, rfl⟩ | ⟨rfl, rfl, Th8⟩ | ⟨rfl, rfl, Th8⟩, Mh8⟩, Fh8⟩
  · skip
    have Ch8 := am_b0 Bh8
    have Vh8 : am_fr h h8 n (n + 14) := am_fr.tr Vh1 (am_fr.mo Fh8 (by omega) (by omega))
    have Rh8 := Rh1.kept Fh8 (by omega)
    have Kh8 := (Fh8.2 (n + 13) (by omega)).trans Kh1
    obtain ⟨m0h8, m1h8⟩ := id Mh8
    refine AQ.of (AS.if_eq_t (tgt := 17) eX9_parent_10 (by decide) ⟨by decide, by decide⟩ (by decide)) ?_
    have hn := hD.n (p := p) (by omega) (by omega)
    have hc0 := hD.c (p := p) (by omega) (by omega) (k := 0) (by omega) (by omega)
    obtain ⟨hc9, hc8⟩ := id hc0
    refine q_blk (lv2 := [(0, vr n), (1, vi p)]) (st2 := [vi 0, vi p, vr n, vr n]) kX9_parent_17 rfl ?_
    refine q_Vi (av := [vi p, vi 0]) (st := [vr n]) (c_X9_xOf Mh8 hD (by omega) (by omega) (by omega) (by omega)) lk_RX9_72 (by decide) rfl rfl Mh8.ob ⟨_, rfl, rfl⟩ (Nat.le_of_ble_eq_true rfl) eX9_parent_21 (fun z9 e10 => ?_)
    subst e10
    refine q_blk (lv2 := [(0, vr n), (1, vi p)]) (st2 := [vi 0, vi p, vr n, vi (pX D p 0), vr n]) kX9_parent_24 rfl ?_
    refine q_Vi (av := [vi p, vi 0]) (st := [vi (pX D p 0), vr n]) (c_X9_yOf Mh8 hD (by omega) (by omega) (by omega) (by omega)) lk_RX9_75 (by decide) rfl rfl Mh8.ob ⟨_, rfl, rfl⟩ (Nat.le_of_ble_eq_true rfl) eX9_parent_27 (fun z11 e12 => ?_)
    subst e12
    refine q_blk (lv2 := [(0, vr n), (1, vi p)]) (st2 := [vi p, vi (pY D p 0), vi (pX D p 0), vr n]) kX9_parent_30 rfl ?_
    refine q_Vi (av := [vi (pX D p 0), vi (pY D p 0), vi p]) (st := []) (c_X9_around Mh8 hD (x := (pX D p 0)) (y := (pY D p 0)) (but := p) (by first | assumption | exact ⟨by omega, by omega⟩) (by first | assumption | exact ⟨by omega, by omega⟩) (by first | assumption | exact ⟨by omega, by omega⟩)) lk_RX9_267 (by decide) rfl rfl Mh8.ob ⟨_, rfl, rfl⟩ (Nat.le_of_ble_eq_true rfl) eX9_parent_31 (fun z13 e14 => ?_)
    exact q_ri rfl eX9_parent_34 ⟨z13, rfl, 0, .inl z13, Or.inr ⟨⟨by omega, by omega⟩, Or.inr ⟨by omega, _, e14, rfl⟩⟩, Or.inl ⟨_, rfl, rfl, rfl⟩, ⟨_, _, _, _, _, _, _, _, _, _, _, _, _, Mh8, Rh8, Kh8⟩, Vh8⟩
  · skip
    have Vh8 : am_fr h h8 n (n + 14) := am_fr.tr Vh1 (am_fr.mo Fh8 (by omega) (by omega))
    have Rh8 := Rh1.kept Fh8 (by omega)
    have Kh8 := (Fh8.2 (n + 13) (by omega)).trans Kh1
    obtain ⟨m0h8, m1h8⟩ := id Mh8
    refine AQ.of (AS.if_eq_f eX9_parent_10 ⟨by decide, by decide⟩ (by decide) (by decide)) ?_
    refine q_blk (lv2 := [(0, vr n), (1, vi p)]) (st2 := [vi 0]) kX9_parent_13 rfl ?_
    refine q_goto (tgt := 34) eX9_parent_14 (by decide) ?_
    exact q_ri rfl eX9_parent_34 ⟨0, rfl, 1, .inr 2, Or.inl ⟨by omega, rfl⟩, Or.inr ⟨_, rfl, rfl⟩, ⟨_, _, _, _, _, _, _, _, _, _, _, _, _, Mh8, Rh8, Kh8⟩, Vh8⟩
  · skip
    have Vh8 : am_fr h h8 n (n + 14) := am_fr.tr Vh1 (am_fr.mo Fh8 (by omega) (by omega))
    have Rh8 := Rh1.kept Fh8 (by omega)
    have Kh8 := (Fh8.2 (n + 13) (by omega)).trans Kh1
    obtain ⟨m0h8, m1h8⟩ := id Mh8
    refine AQ.of (AS.if_eq_f eX9_parent_10 ⟨by decide, by decide⟩ (by decide) (by decide)) ?_
    refine q_blk (lv2 := [(0, vr n), (1, vi p)]) (st2 := [vi 0]) kX9_parent_13 rfl ?_
    refine q_goto (tgt := 34) eX9_parent_14 (by decide) ?_
    exact q_ri rfl eX9_parent_34 ⟨0, rfl, 2, .inr 3, Or.inr ⟨⟨by omega, by omega⟩, Or.inl ⟨by omega, rfl⟩⟩, Or.inr ⟨_, rfl, rfl⟩, ⟨_, _, _, _, _, _, _, _, _, _, _, _, _, Mh8, Rh8, Kh8⟩, Vh8⟩

set_option maxHeartbeats 1000000 in
theorem c_X9_reason {w : am_w} {h : AH} {n : Nat} {th bl eo ud : Int} {bf : Int → Int} {rw : Int → Int → Int} {D : Int → Int} (hA : MA h n th bl eo ud bf rw D) (hD : VD D) {p x y : Int} (r_p : am_r p) (r_x : am_r x) (r_y : am_r y)  : AE w m_X9_reason 9 [vr n, vi p, vi x, vi y] h (am_int (fun z h1 => ∃ th' r, (gA_p D p (gA_xy D x y (gA_z (gm_rC D p x y)))) r ∧ gm_an (fun k => if k = 2 then 1 else 2) r th' z ∧ MA h1 n th' bl eo ud bf rw D ∧ am_fr h h1 n (n + 14))) := by
  refine AE.of wf_X9_reason (Nat.le_of_ble_eq_true rfl) (am_ok_i) ?_
  obtain ⟨tl, ps, er, ea, g0, g1, g2, g3, ns, ne, se, od, sk, hm, hR, hK⟩ := hA
  obtain ⟨m0, m1⟩ := id hm
  have d0 := hD.1
  have d1 := hD.2.1
  have d2 := hD.2.2.1
  have d3 := hD.2.2.2.1
  refine q_blk (lv2 := [(0, vr n), (1, vi p), (2, vi x), (3, vi y)]) (st2 := [vi 0, vr n]) kX9_reason_0 rfl ?_
  refine q_pi eX9_reason_2 fl_RX9_32 (fun q hq => by cases hq; exact Or.inl rfl) (Or.inl rfl) m0 (Nat.le_of_ble_eq_true rfl) (l2 := [0, 0, bl, tl, ps, er, ea, eo, 0, 0, 0, ud, g0, g1, g2, g3, ns, ne, se, 0]) rfl (fun h1 e2 => ?_)
  have k3 := am_at e2
  have k4 := (am_ne e2 (n + 2) (by omega)).trans m1
  have k5 := (am_ne e2 (n + 13) (by omega)).trans hK
  have M5 : MM h1 n 0 bl tl ps er ea eo ud g0 g1 g2 g3 ns ne se D := ⟨k3, k4⟩
  have F5 : am_fr h h1 n (n + 1) := am_fr.st e2 (by omega) (by omega)
  have Vh1 : am_fr h h1 n (n + 14) := am_fr.mo F5 (by omega) (by omega)
  have Rh1 := hR.kept F5 (by omega)
  have Kh1 := (F5.2 (n + 13) (by omega)).trans hK
  obtain ⟨m0h1, m1h1⟩ := id M5
  refine q_blk (lv2 := [(0, vr n), (1, vi p), (2, vi x), (3, vi y)]) (st2 := [vi p, vr n]) kX9_reason_5 rfl ?_
  refine AQ.callVi (av := [vi p]) (st := []) (c_X9_noPolygon M5 hD (by first | assumption | exact ⟨by omega, by omega⟩)) lk_RX9_300 (by decide) rfl rfl M5.ob ⟨_, rfl, rfl⟩ (Nat.le_of_ble_eq_true rfl) eX9_reason_7 (fun z6 h8 e7 => ?_)
  rcases e7 with ⟨⟨rfl, Bh8⟩ | ⟨rfl, Bh8⟩, ⟨thh8, Th8, Mh8⟩, Fh8⟩
  · skip
    obtain rfl := Th8.t
    have Vh8 : am_fr h h8 n (n + 14) := am_fr.tr Vh1 (am_fr.mo Fh8 (by omega) (by omega))
    have Rh8 := Rh1.kept Fh8 (by omega)
    have Kh8 := (Fh8.2 (n + 13) (by omega)).trans Kh1
    obtain ⟨m0h8, m1h8⟩ := id Mh8
    refine AQ.of (AS.if_ne_t (tgt := 23) eX9_reason_10 (by decide) ⟨by decide, by decide⟩ (by decide)) ?_
    refine q_blk (lv2 := [(0, vr n), (1, vi p), (2, vi x), (3, vi y)]) (st2 := [vi 0]) kX9_reason_23 rfl ?_
    refine q_goto (tgt := 34) eX9_reason_24 (by decide) ?_
    exact q_ri rfl eX9_reason_34 ⟨0, rfl, 1, .inr 2, Or.inl ⟨by omega, rfl⟩, Or.inr ⟨_, rfl, rfl⟩, ⟨_, _, _, _, _, _, _, _, _, _, _, _, _, Mh8, Rh8, Kh8⟩, Vh8⟩
  · skip
    obtain rfl := Th8.f
    have Vh8 : am_fr h h8 n (n + 14) := am_fr.tr Vh1 (am_fr.mo Fh8 (by omega) (by omega))
    have Rh8 := Rh1.kept Fh8 (by omega)
    have Kh8 := (Fh8.2 (n + 13) (by omega)).trans Kh1
    obtain ⟨m0h8, m1h8⟩ := id Mh8
    refine AQ.of (AS.if_ne_f eX9_reason_10 ⟨by decide, by decide⟩ (by decide) (by decide)) ?_
    refine q_blk (lv2 := [(0, vr n), (1, vi p), (2, vi x), (3, vi y)]) (st2 := [vi 2, vi y, vi x, vr n]) kX9_reason_13 rfl ?_
    refine AQ.callVi (av := [vi x, vi y, vi 2]) (st := []) (c_X9_noPoint Mh8 hD (x := x) (y := y) (e := 2) (by first | assumption | exact ⟨by omega, by omega⟩) (by first | assumption | exact ⟨by omega, by omega⟩) (by omega)) lk_RX9_306 (by decide) rfl rfl Mh8.ob ⟨_, rfl, rfl⟩ (Nat.le_of_ble_eq_true rfl) eX9_reason_17 (fun z9 h11 e10 => ?_)
    rcases e10 with ⟨⟨rfl, Bh11⟩ | ⟨rfl, Bh11⟩, ⟨thh11, Th11, Mh11⟩, Fh11⟩
    · skip
      obtain rfl := Th11.t
      have Vh11 : am_fr h h11 n (n + 14) := am_fr.tr Vh8 (am_fr.mo Fh11 (by omega) (by omega))
      have Rh11 := Rh8.kept Fh11 (by omega)
      have Kh11 := (Fh11.2 (n + 13) (by omega)).trans Kh8
      obtain ⟨m0h11, m1h11⟩ := id Mh11
      refine AQ.of (AS.if_eq_f eX9_reason_20 ⟨by decide, by decide⟩ (by decide) (by decide)) ?_
      refine q_blk (lv2 := [(0, vr n), (1, vi p), (2, vi x), (3, vi y)]) (st2 := [vi 0]) kX9_reason_23 rfl ?_
      refine q_goto (tgt := 34) eX9_reason_24 (by decide) ?_
      exact q_ri rfl eX9_reason_34 ⟨0, rfl, 2, .inr 0, Or.inr ⟨⟨by omega, by omega⟩, Or.inl ⟨by omega, rfl⟩⟩, Or.inr ⟨_, rfl, rfl⟩, ⟨_, _, _, _, _, _, _, _, _, _, _, _, _, Mh11, Rh11, Kh11⟩, Vh11⟩
    · skip
      obtain rfl := Th11.f
      have Vh11 : am_fr h h11 n (n + 14) := am_fr.tr Vh8 (am_fr.mo Fh11 (by omega) (by omega))
      have Rh11 := Rh8.kept Fh11 (by omega)
      have Kh11 := (Fh11.2 (n + 13) (by omega)).trans Kh8
      obtain ⟨m0h11, m1h11⟩ := id Mh11
      refine AQ.of (AS.if_eq_t (tgt := 27) eX9_reason_20 (by decide) ⟨by decide, by decide⟩ (by decide)) ?_
      refine q_blk (lv2 := [(0, vr n), (1, vi p), (2, vi x), (3, vi y)]) (st2 := [vi y, vi x, vi p, vr n]) kX9_reason_27 rfl ?_
      refine AQ.callVi (av := [vi p, vi x, vi y]) (st := []) (c_X9_cornerReason Mh11 hD (p := p) (x := x) (y := y) (by omega) (by omega) ⟨by omega, by omega⟩ ⟨by omega, by omega⟩) lk_RX9_219 (by decide) rfl rfl Mh11.ob ⟨_, rfl, rfl⟩ (Nat.le_of_ble_eq_true rfl) eX9_reason_31 (fun z12 h14 e13 => ?_)
      obtain ⟨Zh14, ah14, bh14, ch14, dh14, Mh14, Fh14⟩ := e13
      have zrh14 := gm_rC_r Zh14
      have Vh14 : am_fr h h14 n (n + 14) := am_fr.tr Vh11 (am_fr.mo Fh14 (by omega) (by omega))
      have Rh14 := Rh11.kept Fh14 (by omega)
      have Kh14 := (Fh14.2 (n + 13) (by omega)).trans Kh11
      obtain ⟨m0h14, m1h14⟩ := id Mh14
      exact q_ri rfl eX9_reason_34 ⟨z12, rfl, 0, .inl z12, Or.inr ⟨⟨by omega, by omega⟩, Or.inr ⟨⟨⟨by omega, by omega⟩, by omega, by omega⟩, _, Zh14, rfl⟩⟩, Or.inl ⟨_, rfl, rfl, rfl⟩, ⟨_, _, _, _, _, _, _, _, _, _, _, _, _, Mh14, Rh14, Kh14⟩, Vh14⟩

set_option maxHeartbeats 1000000 in
theorem c_X9_where {w : am_w} {h : AH} {n : Nat} {th bl eo ud : Int} {bf : Int → Int} {rw : Int → Int → Int} {D : Int → Int} (hA : MA h n th bl eo ud bf rw D) (hD : VD D) {p x y : Int} (r_p : am_r p) (r_x : am_r x) (r_y : am_r y)  : AE w m_X9_where 8 [vr n, vi p, vi x, vi y] h (am_int (fun z h1 => ∃ th' r, (gA_p D p (gA_xy D x y (gA_c D p (gA_z (fun z => gm_si z (pN D p) (pX D p) (pY D p) x y))))) r ∧ gm_an (fun k => if k = 2 then 1 else if k = 0 then 2 else 3) r th' z ∧ MA h1 n th' bl eo ud bf rw D ∧ am_fr h h1 n (n + 14))) := by
  refine AE.of wf_X9_where (Nat.le_of_ble_eq_true rfl) (am_ok_i) ?_
  obtain ⟨tl, ps, er, ea, g0, g1, g2, g3, ns, ne, se, od, sk, hm, hR, hK⟩ := hA
  obtain ⟨m0, m1⟩ := id hm
  have d0 := hD.1
  have d1 := hD.2.1
  have d2 := hD.2.2.1
  have d3 := hD.2.2.2.1
  refine q_blk (lv2 := [(0, vr n), (1, vi p), (2, vi x), (3, vi y)]) (st2 := [vi 0, vr n]) kX9_where_0 rfl ?_
  refine q_pi eX9_where_2 fl_RX9_32 (fun q hq => by cases hq; exact Or.inl rfl) (Or.inl rfl) m0 (Nat.le_of_ble_eq_true rfl) (l2 := [0, 0, bl, tl, ps, er, ea, eo, 0, 0, 0, ud, g0, g1, g2, g3, ns, ne, se, 0]) rfl (fun h1 e2 => ?_)
  have k3 := am_at e2
  have k4 := (am_ne e2 (n + 2) (by omega)).trans m1
  have k5 := (am_ne e2 (n + 13) (by omega)).trans hK
  have M5 : MM h1 n 0 bl tl ps er ea eo ud g0 g1 g2 g3 ns ne se D := ⟨k3, k4⟩
  have F5 : am_fr h h1 n (n + 1) := am_fr.st e2 (by omega) (by omega)
  have Vh1 : am_fr h h1 n (n + 14) := am_fr.mo F5 (by omega) (by omega)
  have Rh1 := hR.kept F5 (by omega)
  have Kh1 := (F5.2 (n + 13) (by omega)).trans hK
  obtain ⟨m0h1, m1h1⟩ := id M5
  refine q_blk (lv2 := [(0, vr n), (1, vi p), (2, vi x), (3, vi y)]) (st2 := [vi p, vr n]) kX9_where_5 rfl ?_
  refine AQ.callVi (av := [vi p]) (st := []) (c_X9_noPolygon M5 hD (by first | assumption | exact ⟨by omega, by omega⟩)) lk_RX9_300 (by decide) rfl rfl M5.ob ⟨_, rfl, rfl⟩ (Nat.le_of_ble_eq_true rfl) eX9_where_7 (fun z6 h8 e7 => ?_)
  rcases e7 with ⟨⟨rfl, Bh8⟩ | ⟨rfl, Bh8⟩, ⟨thh8, Th8, Mh8⟩, Fh8⟩
  · skip
    obtain rfl := Th8.t
    have Vh8 : am_fr h h8 n (n + 14) := am_fr.tr Vh1 (am_fr.mo Fh8 (by omega) (by omega))
    have Rh8 := Rh1.kept Fh8 (by omega)
    have Kh8 := (Fh8.2 (n + 13) (by omega)).trans Kh1
    obtain ⟨m0h8, m1h8⟩ := id Mh8
    refine AQ.of (AS.if_ne_t (tgt := 44) eX9_where_10 (by decide) ⟨by decide, by decide⟩ (by decide)) ?_
    refine q_blk (lv2 := [(0, vr n), (1, vi p), (2, vi x), (3, vi y)]) (st2 := [vi 0]) kX9_where_44 rfl ?_
    refine q_goto (tgt := 55) eX9_where_45 (by decide) ?_
    exact q_ri rfl eX9_where_55 ⟨0, rfl, 1, .inr 2, Or.inl ⟨by omega, rfl⟩, Or.inr ⟨_, rfl, rfl⟩, ⟨_, _, _, _, _, _, _, _, _, _, _, _, _, Mh8, Rh8, Kh8⟩, Vh8⟩
  · skip
    obtain rfl := Th8.f
    have Vh8 : am_fr h h8 n (n + 14) := am_fr.tr Vh1 (am_fr.mo Fh8 (by omega) (by omega))
    have Rh8 := Rh1.kept Fh8 (by omega)
    have Kh8 := (Fh8.2 (n + 13) (by omega)).trans Kh1
    obtain ⟨m0h8, m1h8⟩ := id Mh8
    refine AQ.of (AS.if_ne_f eX9_where_10 ⟨by decide, by decide⟩ (by decide) (by decide)) ?_
    refine q_blk (lv2 := [(0, vr n), (1, vi p), (2, vi x), (3, vi y)]) (st2 := [vi 2, vi y, vi x, vr n]) kX9_where_13 rfl ?_
    refine AQ.callVi (av := [vi x, vi y, vi 2]) (st := []) (c_X9_noPoint Mh8 hD (x := x) (y := y) (e := 2) (by first | assumption | exact ⟨by omega, by omega⟩) (by first | assumption | exact ⟨by omega, by omega⟩) (by omega)) lk_RX9_306 (by decide) rfl rfl Mh8.ob ⟨_, rfl, rfl⟩ (Nat.le_of_ble_eq_true rfl) eX9_where_17 (fun z9 h11 e10 => ?_)
    rcases e10 with ⟨⟨rfl, Bh11⟩ | ⟨rfl, Bh11⟩, ⟨thh11, Th11, Mh11⟩, Fh11⟩
    · skip
      obtain rfl := Th11.t
      have Vh11 : am_fr h h11 n (n + 14) := am_fr.tr Vh8 (am_fr.mo Fh11 (by omega) (by omega))
      have Rh11 := Rh8.kept Fh11 (by omega)
      have Kh11 := (Fh11.2 (n + 13) (by omega)).trans Kh8
      obtain ⟨m0h11, m1h11⟩ := id Mh11
      refine AQ.of (AS.if_ne_t (tgt := 44) eX9_where_20 (by decide) ⟨by decide, by decide⟩ (by decide)) ?_
      refine q_blk (lv2 := [(0, vr n), (1, vi p), (2, vi x), (3, vi y)]) (st2 := [vi 0]) kX9_where_44 rfl ?_
      refine q_goto (tgt := 55) eX9_where_45 (by decide) ?_
      exact q_ri rfl eX9_where_55 ⟨0, rfl, 2, .inr 0, Or.inr ⟨⟨by omega, by omega⟩, Or.inl ⟨by omega, rfl⟩⟩, Or.inr ⟨_, rfl, rfl⟩, ⟨_, _, _, _, _, _, _, _, _, _, _, _, _, Mh11, Rh11, Kh11⟩, Vh11⟩
    · skip
      obtain rfl := Th11.f
      have Vh11 : am_fr h h11 n (n + 14) := am_fr.tr Vh8 (am_fr.mo Fh11 (by omega) (by omega))
      have Rh11 := Rh8.kept Fh11 (by omega)
      have Kh11 := (Fh11.2 (n + 13) (by omega)).trans Kh8
      obtain ⟨m0h11, m1h11⟩ := id Mh11
      refine AQ.of (AS.if_ne_f eX9_where_20 ⟨by decide, by decide⟩ (by decide) (by decide)) ?_
      have hcl := hD.cl (p := p) (by omega) (by omega)
      refine q_blk (lv2 := [(0, vr n), (1, vi p), (2, vi x), (3, vi y)]) (st2 := [vi p, vr n, vr n]) kX9_where_23 rfl ?_
      refine q_Vi (av := [vi p]) (st := [vr n]) (c_X9_isClosed Mh11 hD (by omega) (by omega)) lk_RX9_42 (by decide) rfl rfl Mh11.ob ⟨_, rfl, rfl⟩ (Nat.le_of_ble_eq_true rfl) eX9_where_26 (fun z12 e13 => ?_)
      rcases e13 with ⟨rfl, e13⟩ | ⟨rfl, e13⟩
      · skip
        refine AQ.of (AS.if_ne_t (tgt := 36) eX9_where_29 (by decide) ⟨by decide, by decide⟩ (by decide)) ?_
        refine q_blk (lv2 := [(0, vr n), (1, vi p), (2, vi x), (3, vi y)]) (st2 := [vi 0, vr n]) kX9_where_36 rfl ?_
        refine q_blk (lv2 := [(0, vr n), (1, vi p), (2, vi x), (3, vi y)]) (st2 := [vi 3, vi 0, vr n]) kX9_where_37 rfl ?_
        refine AQ.callVi (av := [vi 0, vi 3]) (st := []) (c_X9_fails Mh11 (c := 0) (e := 3) (by decide) (by omega)) lk_RX9_241 (by decide) rfl rfl Mh11.ob ⟨_, rfl, rfl⟩ (Nat.le_of_ble_eq_true rfl) eX9_where_38 (fun z14 h16 e15 => ?_)
        rcases e15 with ⟨⟨rfl, Bh16⟩ | ⟨rfl, Bh16⟩, ⟨thh16, Th16, Mh16⟩, Fh16⟩
        · skip
          obtain rfl := Th16.t
          have Vh16 : am_fr h h16 n (n + 14) := am_fr.tr Vh11 (am_fr.mo Fh16 (by omega) (by omega))
          have Rh16 := Rh11.kept Fh16 (by omega)
          have Kh16 := (Fh16.2 (n + 13) (by omega)).trans Kh11
          obtain ⟨m0h16, m1h16⟩ := id Mh16
          refine AQ.of (AS.if_eq_f eX9_where_41 ⟨by decide, by decide⟩ (by decide) (by decide)) ?_
          refine q_blk (lv2 := [(0, vr n), (1, vi p), (2, vi x), (3, vi y)]) (st2 := [vi 0]) kX9_where_44 rfl ?_
          refine q_goto (tgt := 55) eX9_where_45 (by decide) ?_
          exact q_ri rfl eX9_where_55 ⟨0, rfl, 3, .inr 3, Or.inr ⟨⟨by omega, by omega⟩, Or.inr ⟨⟨⟨by omega, by omega⟩, by omega, by omega⟩, Or.inl ⟨by omega, rfl⟩⟩⟩, Or.inr ⟨_, rfl, rfl⟩, ⟨_, _, _, _, _, _, _, _, _, _, _, _, _, Mh16, Rh16, Kh16⟩, Vh16⟩
        · skip
          obtain rfl := Th16.f
          have Vh16 : am_fr h h16 n (n + 14) := am_fr.tr Vh11 (am_fr.mo Fh16 (by omega) (by omega))
          have Rh16 := Rh11.kept Fh16 (by omega)
          have Kh16 := (Fh16.2 (n + 13) (by omega)).trans Kh11
          obtain ⟨m0h16, m1h16⟩ := id Mh16
          refine AQ.of (AS.if_eq_t (tgt := 48) eX9_where_41 (by decide) ⟨by decide, by decide⟩ (by decide)) ?_
          refine q_blk (lv2 := [(0, vr n), (1, vi p), (2, vi x), (3, vi y)]) (st2 := [vi y, vi x, vi p, vr n]) kX9_where_48 rfl ?_
          refine q_Vi (av := [vi p, vi x, vi y]) (st := []) (c_X9_sideOf Mh16 hD (by omega) (by omega) (x := x) (y := y) (by first | assumption | exact ⟨by omega, by omega⟩) (by first | assumption | exact ⟨by omega, by omega⟩)) lk_RX9_261 (by decide) rfl rfl Mh16.ob ⟨_, rfl, rfl⟩ (Nat.le_of_ble_eq_true rfl) eX9_where_52 (fun z17 e18 => ?_)
          have si9 := gm_si_r e18
          exact q_ri rfl eX9_where_55 ⟨z17, rfl, 0, .inl z17, Or.inr ⟨⟨by omega, by omega⟩, Or.inr ⟨⟨⟨by omega, by omega⟩, by omega, by omega⟩, Or.inr ⟨by omega, _, e18, rfl⟩⟩⟩, Or.inl ⟨_, rfl, rfl, rfl⟩, ⟨_, _, _, _, _, _, _, _, _, _, _, _, _, Mh16, Rh16, Kh16⟩, Vh16⟩
      · skip
        refine AQ.of (AS.if_ne_f eX9_where_29 ⟨by decide, by decide⟩ (by decide) (by decide)) ?_
        refine q_blk (lv2 := [(0, vr n), (1, vi p), (2, vi x), (3, vi y)]) (st2 := [vi 1, vr n]) kX9_where_32 rfl ?_
        refine q_goto (tgt := 37) eX9_where_33 (by decide) ?_
        refine q_blk (lv2 := [(0, vr n), (1, vi p), (2, vi x), (3, vi y)]) (st2 := [vi 3, vi 1, vr n]) kX9_where_37 rfl ?_
        refine AQ.callVi (av := [vi 1, vi 3]) (st := []) (c_X9_fails Mh11 (c := 1) (e := 3) (by decide) (by omega)) lk_RX9_241 (by decide) rfl rfl Mh11.ob ⟨_, rfl, rfl⟩ (Nat.le_of_ble_eq_true rfl) eX9_where_38 (fun z19 h21 e20 => ?_)
        rcases e20 with ⟨⟨rfl, Bh21⟩ | ⟨rfl, Bh21⟩, ⟨thh21, Th21, Mh21⟩, Fh21⟩
        · skip
          obtain rfl := Th21.t
          have Vh21 : am_fr h h21 n (n + 14) := am_fr.tr Vh11 (am_fr.mo Fh21 (by omega) (by omega))
          have Rh21 := Rh11.kept Fh21 (by omega)
          have Kh21 := (Fh21.2 (n + 13) (by omega)).trans Kh11
          obtain ⟨m0h21, m1h21⟩ := id Mh21
          refine AQ.of (AS.if_eq_f eX9_where_41 ⟨by decide, by decide⟩ (by decide) (by decide)) ?_
          refine q_blk (lv2 := [(0, vr n), (1, vi p), (2, vi x), (3, vi y)]) (st2 := [vi 0]) kX9_where_44 rfl ?_
          refine q_goto (tgt := 55) eX9_where_45 (by decide) ?_
          exact q_ri rfl eX9_where_55 ⟨0, rfl, 3, .inr 3, Or.inr ⟨⟨by omega, by omega⟩, Or.inr ⟨⟨⟨by omega, by omega⟩, by omega, by omega⟩, Or.inl ⟨by omega, rfl⟩⟩⟩, Or.inr ⟨_, rfl, rfl⟩, ⟨_, _, _, _, _, _, _, _, _, _, _, _, _, Mh21, Rh21, Kh21⟩, Vh21⟩
        · skip
          obtain rfl := Th21.f
          have Vh21 : am_fr h h21 n (n + 14) := am_fr.tr Vh11 (am_fr.mo Fh21 (by omega) (by omega))
          have Rh21 := Rh11.kept Fh21 (by omega)
          have Kh21 := (Fh21.2 (n + 13) (by omega)).trans Kh11
          obtain ⟨m0h21, m1h21⟩ := id Mh21
          refine AQ.of (AS.if_eq_t (tgt := 48) eX9_where_41 (by decide) ⟨by decide, by decide⟩ (by decide)) ?_
          refine q_blk (lv2 := [(0, vr n), (1, vi p), (2, vi x), (3, vi y)]) (st2 := [vi y, vi x, vi p, vr n]) kX9_where_48 rfl ?_
          refine q_Vi (av := [vi p, vi x, vi y]) (st := []) (c_X9_sideOf Mh21 hD (by omega) (by omega) (x := x) (y := y) (by first | assumption | exact ⟨by omega, by omega⟩) (by first | assumption | exact ⟨by omega, by omega⟩)) lk_RX9_261 (by decide) rfl rfl Mh21.ob ⟨_, rfl, rfl⟩ (Nat.le_of_ble_eq_true rfl) eX9_where_52 (fun z22 e23 => ?_)
          have si9 := gm_si_r e23
          exact q_ri rfl eX9_where_55 ⟨z22, rfl, 0, .inl z22, Or.inr ⟨⟨by omega, by omega⟩, Or.inr ⟨⟨⟨by omega, by omega⟩, by omega, by omega⟩, Or.inr ⟨by omega, _, e23, rfl⟩⟩⟩, Or.inl ⟨_, rfl, rfl, rfl⟩, ⟨_, _, _, _, _, _, _, _, _, _, _, _, _, Mh21, Rh21, Kh21⟩, Vh21⟩

set_option maxHeartbeats 1000000 in
theorem c_X9_count {w : am_w} {h : AH} {n : Nat} {th bl eo ud : Int} {bf : Int → Int} {rw : Int → Int → Int} {D : Int → Int} (hA : MA h n th bl eo ud bf rw D) (hD : VD D) {cm : Int → Int} (hM : CMS D cm) {q : Int} (r_q : am_r q)  : AE w m_X9_count 9 [vr n, vi q] h (am_int (fun z h1 => ∃ th' r, gA_cnt D cm q r ∧ gm_an (fun _ => 1) r th' z ∧ MA h1 n th' bl eo ud bf rw D ∧ am_fr h h1 n (n + 14))) := by
  refine AE.of wf_X9_count (Nat.le_of_ble_eq_true rfl) (am_ok_i) ?_
  obtain ⟨tl, ps, er, ea, g0, g1, g2, g3, ns, ne, se, od, sk, hm, hR, hK⟩ := hA
  obtain ⟨m0, m1⟩ := id hm
  have d0 := hD.1
  have d1 := hD.2.1
  have d2 := hD.2.2.1
  have d3 := hD.2.2.2.1
  refine q_blk (lv2 := [(0, vr n), (1, vi q)]) (st2 := [vi 0, vr n]) kX9_count_0 rfl ?_
  refine q_pi eX9_count_2 fl_RX9_32 (fun q hq => by cases hq; exact Or.inl rfl) (Or.inl rfl) m0 (Nat.le_of_ble_eq_true rfl) (l2 := [0, 0, bl, tl, ps, er, ea, eo, 0, 0, 0, ud, g0, g1, g2, g3, ns, ne, se, 0]) rfl (fun h1 e2 => ?_)
  have k3 := am_at e2
  have k4 := (am_ne e2 (n + 2) (by omega)).trans m1
  have k5 := (am_ne e2 (n + 13) (by omega)).trans hK
  have M5 : MM h1 n 0 bl tl ps er ea eo ud g0 g1 g2 g3 ns ne se D := ⟨k3, k4⟩
  have F5 : am_fr h h1 n (n + 1) := am_fr.st e2 (by omega) (by omega)
  have Vh1 : am_fr h h1 n (n + 14) := am_fr.mo F5 (by omega) (by omega)
  have Rh1 := hR.kept F5 (by omega)
  have Kh1 := (F5.2 (n + 13) (by omega)).trans hK
  obtain ⟨m0h1, m1h1⟩ := id M5
  refine q_blk (lv2 := [(0, vr n), (1, vi q)]) (st2 := [vi 5, vi 0, vi q, vr n]) kX9_count_5 rfl ?_
  refine q_Si (av := [vi q, vi 0, vi 5]) (st := [vr n]) (c_X9_in (by first | assumption | exact ⟨by omega, by omega⟩) (by first | assumption | exact ⟨by omega, by omega⟩) (by first | assumption | exact ⟨by omega, by omega⟩)) lk_RX9_57 (by decide) rfl rfl (Nat.le_of_ble_eq_true rfl) eX9_count_9 (fun z6 e7 => ?_)
  rcases e7 with ⟨rfl, e7⟩ | ⟨rfl, e7⟩
  · skip
    refine AQ.of (AS.if_ne_t (tgt := 19) eX9_count_12 (by decide) ⟨by decide, by decide⟩ (by decide)) ?_
    refine q_blk (lv2 := [(0, vr n), (1, vi q)]) (st2 := [vi 0, vr n]) kX9_count_19 rfl ?_
    refine q_blk (lv2 := [(0, vr n), (1, vi q)]) (st2 := [vi 1, vi 0, vr n]) kX9_count_20 rfl ?_
    refine AQ.callVi (av := [vi 0, vi 1]) (st := []) (c_X9_fails M5 (c := 0) (e := 1) (by decide) (by omega)) lk_RX9_241 (by decide) rfl rfl M5.ob ⟨_, rfl, rfl⟩ (Nat.le_of_ble_eq_true rfl) eX9_count_21 (fun z8 h10 e9 => ?_)
    rcases e9 with ⟨⟨rfl, Bh10⟩ | ⟨rfl, Bh10⟩, ⟨thh10, Th10, Mh10⟩, Fh10⟩
    · skip
      obtain rfl := Th10.t
      have Vh10 : am_fr h h10 n (n + 14) := am_fr.tr Vh1 (am_fr.mo Fh10 (by omega) (by omega))
      have Rh10 := Rh1.kept Fh10 (by omega)
      have Kh10 := (Fh10.2 (n + 13) (by omega)).trans Kh1
      obtain ⟨m0h10, m1h10⟩ := id Mh10
      refine AQ.of (AS.if_eq_f eX9_count_24 ⟨by decide, by decide⟩ (by decide) (by decide)) ?_
      refine q_blk (lv2 := [(0, vr n), (1, vi q)]) (st2 := [vi 0]) kX9_count_27 rfl ?_
      exact q_ri rfl eX9_count_28 ⟨0, rfl, 1, .inr 0, Or.inr (Or.inr (Or.inr (Or.inr (Or.inr (Or.inr ⟨by omega, rfl⟩))))), Or.inr ⟨_, rfl, rfl⟩, ⟨_, _, _, _, _, _, _, _, _, _, _, _, _, Mh10, Rh10, Kh10⟩, Vh10⟩
    · skip
      obtain rfl := Th10.f
      have Vh10 : am_fr h h10 n (n + 14) := am_fr.tr Vh1 (am_fr.mo Fh10 (by omega) (by omega))
      have Rh10 := Rh1.kept Fh10 (by omega)
      have Kh10 := (Fh10.2 (n + 13) (by omega)).trans Kh1
      obtain ⟨m0h10, m1h10⟩ := id Mh10
      refine AQ.of (AS.if_eq_t (tgt := 29) eX9_count_24 (by decide) ⟨by decide, by decide⟩ (by decide)) ?_
      refine q_blk (lv2 := [(0, vr n), (1, vi q)]) (st2 := [vi 5, vi q]) kX9_count_29 rfl ?_
      refine AQ.ic_ne (tgt := 39) eX9_count_31 (by decide) (by first | assumption | exact ⟨by omega, by omega⟩) ⟨by decide, by decide⟩ (fun br11 => ?_) (fun br11 => ?_)
      · skip
        refine q_blk (lv2 := [(0, vr n), (1, vi q), (2, vi 0), (3, vi 0)]) (st2 := []) kX9_count_39 rfl ?_
        refine am_lp2 (I := fun (s : Int) (k : Int) => (0 ≤ k ∧ k ≤ D 3) ∧ s = gm_sm (gm_cc D) k.toNat ∧ (0 ≤ s ∧ s ≤ k)) (μ := fun (s : Int) (k : Int) => (D 3 - k).toNat) (G := fun (s : Int) (k : Int) => AQ w m_X9_count 9 43 [(0, vr n), (1, vi q), (2, vi s), (3, vi k)] [] h10 (am_int (fun z h1 => ∃ th' r, gA_cnt D cm q r ∧ gm_an (fun _ => 1) r th' z ∧ MA h1 n th' bl eo ud bf rw D ∧ am_fr h h1 n (n + 14)))) ?_ 0 0 (⟨⟨by omega, by omega⟩, rfl, by omega⟩)
        intro s k hI13 ih12
        obtain ⟨⟨k0, k1⟩, hs, hr⟩ := hI13
        refine q_blk (lv2 := [(0, vr n), (1, vi q), (2, vi s), (3, vi k)]) (st2 := [vr n, vi k]) kX9_count_43 rfl ?_
        refine q_gr eX9_count_45 fl_RX9_17 (Or.inr ⟨_, rfl⟩) m0h10 rfl ?_
        refine q_blk (lv2 := [(0, vr n), (1, vi q), (2, vi s), (3, vi k)]) (st2 := [vi 3, vr (n + 2), vi k]) kX9_count_48 rfl ?_
        refine q_ia eX9_count_49 m1h10 (by decide) (by omega) (by omega) (z := (D 3)) rfl ?_
        refine AQ.ic_ge (tgt := 75) eX9_count_50 (by decide) (by first | assumption | exact ⟨by omega, by omega⟩) (by first | assumption | exact ⟨by omega, by omega⟩) (fun br14 => ?_) (fun br14 => ?_)
        · skip
          refine q_blk (lv2 := [(0, vr n), (1, vi q), (2, vi s), (3, vi k)]) (st2 := [vi 4, vi q]) kX9_count_75 rfl ?_
          refine AQ.ic_ne (tgt := 84) eX9_count_77 (by decide) (by first | assumption | exact ⟨by omega, by omega⟩) ⟨by decide, by decide⟩ (fun br15 => ?_) (fun br15 => ?_)
          · skip
            refine q_blk (lv2 := [(0, vr n), (1, vi q), (2, vi s), (3, vi k)]) (st2 := [vr n]) kX9_count_84 rfl ?_
            refine q_gr eX9_count_85 fl_RX9_17 (Or.inr ⟨_, rfl⟩) m0h10 rfl ?_
            refine q_blk (lv2 := [(0, vr n), (1, vi q), (2, vi s), (3, vi k)]) (st2 := [vi q, vr (n + 2)]) kX9_count_88 rfl ?_
            refine q_ia eX9_count_89 m1h10 (by decide) (by omega) (by omega) (z := (D q)) rfl ?_
            exact q_ri rfl eX9_count_90 ⟨(D q), rfl, 0, .inl (D q), gm_cnt_d ⟨by omega, by omega⟩, Or.inl ⟨_, rfl, rfl, rfl⟩, ⟨_, _, _, _, _, _, _, _, _, _, _, _, _, Mh10, Rh10, Kh10⟩, Vh10⟩
          · skip
            refine q_blk (lv2 := [(0, vr n), (1, vi q), (2, vi s), (3, vi k)]) (st2 := [vi s]) kX9_count_80 rfl ?_
            refine q_goto (tgt := 90) eX9_count_81 (by decide) ?_
            exact q_ri rfl eX9_count_90 ⟨s, rfl, 0, .inl s, Or.inr (Or.inr (Or.inr (Or.inr (Or.inl ⟨by omega, by rw [hs, show k = D 3 by omega]⟩)))), Or.inl ⟨_, rfl, rfl, rfl⟩, ⟨_, _, _, _, _, _, _, _, _, _, _, _, _, Mh10, Rh10, Kh10⟩, Vh10⟩
        · skip
          have hcl := hD.cl (p := k) (by omega) (by omega)
          refine q_blk (lv2 := [(0, vr n), (1, vi q), (2, vi s), (3, vi k)]) (st2 := [vi k, vr n, vi s]) kX9_count_53 rfl ?_
          refine q_Vi (av := [vi k]) (st := [vi s]) (c_X9_isClosed Mh10 hD (by omega) (by omega)) lk_RX9_42 (by decide) rfl rfl Mh10.ob ⟨_, rfl, rfl⟩ (Nat.le_of_ble_eq_true rfl) eX9_count_56 (fun z16 e17 => ?_)
          rcases e17 with ⟨rfl, e17⟩ | ⟨rfl, e17⟩
          · skip
            refine AQ.of (AS.if_eq_f eX9_count_59 ⟨by decide, by decide⟩ (by decide) (by decide)) ?_
            refine q_blk (lv2 := [(0, vr n), (1, vi q), (2, vi s), (3, vi k)]) (st2 := [vi 1, vi s]) kX9_count_62 rfl ?_
            refine q_goto (tgt := 67) eX9_count_63 (by decide) ?_
            refine q_blk (lv2 := [(0, vr n), (1, vi q), (2, vi (s + 1)), (3, vi (k + 1))]) (st2 := []) kX9_count_67 rfl ?_
            refine q_goto (tgt := 43) eX9_count_72 (by decide) ?_
            exact ih12 (s + 1) (k + 1) (⟨⟨by omega, by omega⟩, by rw [gm_sm_s _ k0, ← hs]; unfold gm_cc; split <;> omega, by omega⟩) (by omega)
          · skip
            refine AQ.of (AS.if_eq_t (tgt := 66) eX9_count_59 (by decide) ⟨by decide, by decide⟩ (by decide)) ?_
            refine q_blk (lv2 := [(0, vr n), (1, vi q), (2, vi s), (3, vi k)]) (st2 := [vi 0, vi s]) kX9_count_66 rfl ?_
            refine q_blk (lv2 := [(0, vr n), (1, vi q), (2, vi (s + 0)), (3, vi (k + 1))]) (st2 := []) kX9_count_67 rfl ?_
            refine q_goto (tgt := 43) eX9_count_72 (by decide) ?_
            exact ih12 (s + 0) (k + 1) (⟨⟨by omega, by omega⟩, by rw [gm_sm_s _ k0, ← hs]; unfold gm_cc; split <;> omega, by omega⟩) (by omega)
      · skip
        refine q_blk (lv2 := [(0, vr n), (1, vi q)]) (st2 := [vr n]) kX9_count_34 rfl ?_
        refine q_Vi (av := []) (st := []) (c_X9_claimedNow Mh10 hD hM) lk_RX9_303 (by decide) rfl rfl Mh10.ob ⟨_, rfl, rfl⟩ (Nat.le_of_ble_eq_true rfl) eX9_count_35 (fun z18 e19 => ?_)
        subst e19
        exact q_ri rfl eX9_count_38 ⟨(gm_sm (gm_nf cm) (D 2).toNat), rfl, 0, .inl (gm_sm (gm_nf cm) (D 2).toNat), Or.inr (Or.inr (Or.inr (Or.inr (Or.inr (Or.inl ⟨by omega, rfl⟩))))), Or.inl ⟨_, rfl, rfl, rfl⟩, ⟨_, _, _, _, _, _, _, _, _, _, _, _, _, Mh10, Rh10, Kh10⟩, Vh10⟩
  · skip
    refine AQ.of (AS.if_ne_f eX9_count_12 ⟨by decide, by decide⟩ (by decide) (by decide)) ?_
    refine q_blk (lv2 := [(0, vr n), (1, vi q)]) (st2 := [vi 1, vr n]) kX9_count_15 rfl ?_
    refine q_goto (tgt := 20) eX9_count_16 (by decide) ?_
    refine q_blk (lv2 := [(0, vr n), (1, vi q)]) (st2 := [vi 1, vi 1, vr n]) kX9_count_20 rfl ?_
    refine AQ.callVi (av := [vi 1, vi 1]) (st := []) (c_X9_fails M5 (c := 1) (e := 1) (by decide) (by omega)) lk_RX9_241 (by decide) rfl rfl M5.ob ⟨_, rfl, rfl⟩ (Nat.le_of_ble_eq_true rfl) eX9_count_21 (fun z20 h22 e21 => ?_)
    rcases e21 with ⟨⟨rfl, Bh22⟩ | ⟨rfl, Bh22⟩, ⟨thh22, Th22, Mh22⟩, Fh22⟩
    · skip
      obtain rfl := Th22.t
      have Vh22 : am_fr h h22 n (n + 14) := am_fr.tr Vh1 (am_fr.mo Fh22 (by omega) (by omega))
      have Rh22 := Rh1.kept Fh22 (by omega)
      have Kh22 := (Fh22.2 (n + 13) (by omega)).trans Kh1
      obtain ⟨m0h22, m1h22⟩ := id Mh22
      refine AQ.of (AS.if_eq_f eX9_count_24 ⟨by decide, by decide⟩ (by decide) (by decide)) ?_
      refine q_blk (lv2 := [(0, vr n), (1, vi q)]) (st2 := [vi 0]) kX9_count_27 rfl ?_
      exact q_ri rfl eX9_count_28 ⟨0, rfl, 1, .inr 0, Or.inr (Or.inr (Or.inr (Or.inr (Or.inr (Or.inr ⟨by omega, rfl⟩))))), Or.inr ⟨_, rfl, rfl⟩, ⟨_, _, _, _, _, _, _, _, _, _, _, _, _, Mh22, Rh22, Kh22⟩, Vh22⟩
    · skip
      obtain rfl := Th22.f
      have Vh22 : am_fr h h22 n (n + 14) := am_fr.tr Vh1 (am_fr.mo Fh22 (by omega) (by omega))
      have Rh22 := Rh1.kept Fh22 (by omega)
      have Kh22 := (Fh22.2 (n + 13) (by omega)).trans Kh1
      obtain ⟨m0h22, m1h22⟩ := id Mh22
      refine AQ.of (AS.if_eq_t (tgt := 29) eX9_count_24 (by decide) ⟨by decide, by decide⟩ (by decide)) ?_
      refine q_blk (lv2 := [(0, vr n), (1, vi q)]) (st2 := [vi 5, vi q]) kX9_count_29 rfl ?_
      refine AQ.ic_ne (tgt := 39) eX9_count_31 (by decide) (by first | assumption | exact ⟨by omega, by omega⟩) ⟨by decide, by decide⟩ (fun br23 => ?_) (fun br23 => ?_)
      · skip
        refine q_blk (lv2 := [(0, vr n), (1, vi q), (2, vi 0), (3, vi 0)]) (st2 := []) kX9_count_39 rfl ?_
        refine am_lp2 (I := fun (s : Int) (k : Int) => (0 ≤ k ∧ k ≤ D 3) ∧ s = gm_sm (gm_cc D) k.toNat ∧ (0 ≤ s ∧ s ≤ k)) (μ := fun (s : Int) (k : Int) => (D 3 - k).toNat) (G := fun (s : Int) (k : Int) => AQ w m_X9_count 9 43 [(0, vr n), (1, vi q), (2, vi s), (3, vi k)] [] h22 (am_int (fun z h1 => ∃ th' r, gA_cnt D cm q r ∧ gm_an (fun _ => 1) r th' z ∧ MA h1 n th' bl eo ud bf rw D ∧ am_fr h h1 n (n + 14)))) ?_ 0 0 (⟨⟨by omega, by omega⟩, rfl, by omega⟩)
        intro s k hI25 ih24
        obtain ⟨⟨k0, k1⟩, hs, hr⟩ := hI25
        refine q_blk (lv2 := [(0, vr n), (1, vi q), (2, vi s), (3, vi k)]) (st2 := [vr n, vi k]) kX9_count_43 rfl ?_
        refine q_gr eX9_count_45 fl_RX9_17 (Or.inr ⟨_, rfl⟩) m0h22 rfl ?_
        refine q_blk (lv2 := [(0, vr n), (1, vi q), (2, vi s), (3, vi k)]) (st2 := [vi 3, vr (n + 2), vi k]) kX9_count_48 rfl ?_
        refine q_ia eX9_count_49 m1h22 (by decide) (by omega) (by omega) (z := (D 3)) rfl ?_
        refine AQ.ic_ge (tgt := 75) eX9_count_50 (by decide) (by first | assumption | exact ⟨by omega, by omega⟩) (by first | assumption | exact ⟨by omega, by omega⟩) (fun br26 => ?_) (fun br26 => ?_)
        · skip
          refine q_blk (lv2 := [(0, vr n), (1, vi q), (2, vi s), (3, vi k)]) (st2 := [vi 4, vi q]) kX9_count_75 rfl ?_
          refine AQ.ic_ne (tgt := 84) eX9_count_77 (by decide) (by first | assumption | exact ⟨by omega, by omega⟩) ⟨by decide, by decide⟩ (fun br27 => ?_) (fun br27 => ?_)
          · skip
            refine q_blk (lv2 := [(0, vr n), (1, vi q), (2, vi s), (3, vi k)]) (st2 := [vr n]) kX9_count_84 rfl ?_
            refine q_gr eX9_count_85 fl_RX9_17 (Or.inr ⟨_, rfl⟩) m0h22 rfl ?_
            refine q_blk (lv2 := [(0, vr n), (1, vi q), (2, vi s), (3, vi k)]) (st2 := [vi q, vr (n + 2)]) kX9_count_88 rfl ?_
            refine q_ia eX9_count_89 m1h22 (by decide) (by omega) (by omega) (z := (D q)) rfl ?_
            exact q_ri rfl eX9_count_90 ⟨(D q), rfl, 0, .inl (D q), gm_cnt_d ⟨by omega, by omega⟩, Or.inl ⟨_, rfl, rfl, rfl⟩, ⟨_, _, _, _, _, _, _, _, _, _, _, _, _, Mh22, Rh22, Kh22⟩, Vh22⟩
          · skip
            refine q_blk (lv2 := [(0, vr n), (1, vi q), (2, vi s), (3, vi k)]) (st2 := [vi s]) kX9_count_80 rfl ?_
            refine q_goto (tgt := 90) eX9_count_81 (by decide) ?_
            exact q_ri rfl eX9_count_90 ⟨s, rfl, 0, .inl s, Or.inr (Or.inr (Or.inr (Or.inr (Or.inl ⟨by omega, by rw [hs, show k = D 3 by omega]⟩)))), Or.inl ⟨_, rfl, rfl, rfl⟩, ⟨_, _, _, _, _, _, _, _, _, _, _, _, _, Mh22, Rh22, Kh22⟩, Vh22⟩
        · skip
          have hcl := hD.cl (p := k) (by omega) (by omega)
          refine q_blk (lv2 := [(0, vr n), (1, vi q), (2, vi s), (3, vi k)]) (st2 := [vi k, vr n, vi s]) kX9_count_53 rfl ?_
          refine q_Vi (av := [vi k]) (st := [vi s]) (c_X9_isClosed Mh22 hD (by omega) (by omega)) lk_RX9_42 (by decide) rfl rfl Mh22.ob ⟨_, rfl, rfl⟩ (Nat.le_of_ble_eq_true rfl) eX9_count_56 (fun z28 e29 => ?_)
          rcases e29 with ⟨rfl, e29⟩ | ⟨rfl, e29⟩
          · skip
            refine AQ.of (AS.if_eq_f eX9_count_59 ⟨by decide, by decide⟩ (by decide) (by decide)) ?_
            refine q_blk (lv2 := [(0, vr n), (1, vi q), (2, vi s), (3, vi k)]) (st2 := [vi 1, vi s]) kX9_count_62 rfl ?_
            refine q_goto (tgt := 67) eX9_count_63 (by decide) ?_
            refine q_blk (lv2 := [(0, vr n), (1, vi q), (2, vi (s + 1)), (3, vi (k + 1))]) (st2 := []) kX9_count_67 rfl ?_
            refine q_goto (tgt := 43) eX9_count_72 (by decide) ?_
            exact ih24 (s + 1) (k + 1) (⟨⟨by omega, by omega⟩, by rw [gm_sm_s _ k0, ← hs]; unfold gm_cc; split <;> omega, by omega⟩) (by omega)
          · skip
            refine AQ.of (AS.if_eq_t (tgt := 66) eX9_count_59 (by decide) ⟨by decide, by decide⟩ (by decide)) ?_
            refine q_blk (lv2 := [(0, vr n), (1, vi q), (2, vi s), (3, vi k)]) (st2 := [vi 0, vi s]) kX9_count_66 rfl ?_
            refine q_blk (lv2 := [(0, vr n), (1, vi q), (2, vi (s + 0)), (3, vi (k + 1))]) (st2 := []) kX9_count_67 rfl ?_
            refine q_goto (tgt := 43) eX9_count_72 (by decide) ?_
            exact ih24 (s + 0) (k + 1) (⟨⟨by omega, by omega⟩, by rw [gm_sm_s _ k0, ← hs]; unfold gm_cc; split <;> omega, by omega⟩) (by omega)
      · skip
        refine q_blk (lv2 := [(0, vr n), (1, vi q)]) (st2 := [vr n]) kX9_count_34 rfl ?_
        refine q_Vi (av := []) (st := []) (c_X9_claimedNow Mh22 hD hM) lk_RX9_303 (by decide) rfl rfl Mh22.ob ⟨_, rfl, rfl⟩ (Nat.le_of_ble_eq_true rfl) eX9_count_35 (fun z30 e31 => ?_)
        subst e31
        exact q_ri rfl eX9_count_38 ⟨(gm_sm (gm_nf cm) (D 2).toNat), rfl, 0, .inl (gm_sm (gm_nf cm) (D 2).toNat), Or.inr (Or.inr (Or.inr (Or.inr (Or.inr (Or.inl ⟨by omega, rfl⟩))))), Or.inl ⟨_, rfl, rfl, rfl⟩, ⟨_, _, _, _, _, _, _, _, _, _, _, _, _, Mh22, Rh22, Kh22⟩, Vh22⟩

set_option maxHeartbeats 1000000 in
theorem c_X9_stone {w : am_w} {h : AH} {n : Nat} {th bl eo ud : Int} {bf : Int → Int} {rw : Int → Int → Int} {D : Int → Int} (hA : MA h n th bl eo ud bf rw D) (hD : VD D) {cm : Int → Int} (hM : CMS D cm) {k q : Int} (r_k : am_r k) (r_q : am_r q)  : AE w m_X9_stone 8 [vr n, vi k, vi q] h (am_int (fun z h1 => ∃ th' r, gA_sto D cm k q r ∧ gm_an (fun k => if k = 1 then 1 else 2) r th' z ∧ MA h1 n th' bl eo ud bf rw D ∧ am_fr h h1 n (n + 14))) := by
  refine AE.of wf_X9_stone (Nat.le_of_ble_eq_true rfl) (am_ok_i) ?_
  obtain ⟨tl, ps, er, ea, g0, g1, g2, g3, ns, ne, se, od, sk, hm, hR, hK⟩ := hA
  obtain ⟨m0, m1⟩ := id hm
  have d0 := hD.1
  have d1 := hD.2.1
  have d2 := hD.2.2.1
  have d3 := hD.2.2.2.1
  refine q_blk (lv2 := [(0, vr n), (1, vi k), (2, vi q)]) (st2 := [vi 0, vr n]) kX9_stone_0 rfl ?_
  refine q_pi eX9_stone_2 fl_RX9_32 (fun q hq => by cases hq; exact Or.inl rfl) (Or.inl rfl) m0 (Nat.le_of_ble_eq_true rfl) (l2 := [0, 0, bl, tl, ps, er, ea, eo, 0, 0, 0, ud, g0, g1, g2, g3, ns, ne, se, 0]) rfl (fun h1 e2 => ?_)
  have k3 := am_at e2
  have k4 := (am_ne e2 (n + 2) (by omega)).trans m1
  have k5 := (am_ne e2 (n + 13) (by omega)).trans hK
  have M5 : MM h1 n 0 bl tl ps er ea eo ud g0 g1 g2 g3 ns ne se D := ⟨k3, k4⟩
  have F5 : am_fr h h1 n (n + 1) := am_fr.st e2 (by omega) (by omega)
  have Vh1 : am_fr h h1 n (n + 14) := am_fr.mo F5 (by omega) (by omega)
  have Rh1 := hR.kept F5 (by omega)
  have Kh1 := (F5.2 (n + 13) (by omega)).trans hK
  obtain ⟨m0h1, m1h1⟩ := id M5
  refine q_blk (lv2 := [(0, vr n), (1, vi k), (2, vi q)]) (st2 := [vr n, vi 0, vi k, vr n]) kX9_stone_5 rfl ?_
  refine q_gr eX9_stone_9 fl_RX9_17 (Or.inr ⟨_, rfl⟩) m0h1 rfl ?_
  refine q_blk (lv2 := [(0, vr n), (1, vi k), (2, vi q)]) (st2 := [vi 2, vr (n + 2), vi 0, vi k, vr n]) kX9_stone_12 rfl ?_
  refine q_ia eX9_stone_13 m1h1 (by decide) (by omega) (by omega) (z := (D 2)) rfl ?_
  refine q_blk (lv2 := [(0, vr n), (1, vi k), (2, vi q)]) (st2 := [vi ((D 2) - 1), vi 0, vi k, vr n]) kX9_stone_14 rfl ?_
  refine q_Si (av := [vi k, vi 0, vi ((D 2) - 1)]) (st := [vr n]) (c_X9_in (by first | assumption | exact ⟨by omega, by omega⟩) (by first | assumption | exact ⟨by omega, by omega⟩) (by first | assumption | exact ⟨by omega, by omega⟩)) lk_RX9_57 (by decide) rfl rfl (Nat.le_of_ble_eq_true rfl) eX9_stone_16 (fun z6 e7 => ?_)
  rcases e7 with ⟨rfl, e7⟩ | ⟨rfl, e7⟩
  · skip
    refine AQ.of (AS.if_ne_t (tgt := 26) eX9_stone_19 (by decide) ⟨by decide, by decide⟩ (by decide)) ?_
    refine q_blk (lv2 := [(0, vr n), (1, vi k), (2, vi q)]) (st2 := [vi 0, vr n]) kX9_stone_26 rfl ?_
    refine q_blk (lv2 := [(0, vr n), (1, vi k), (2, vi q)]) (st2 := [vi 1, vi 0, vr n]) kX9_stone_27 rfl ?_
    refine AQ.callVi (av := [vi 0, vi 1]) (st := []) (c_X9_fails M5 (c := 0) (e := 1) (by decide) (by omega)) lk_RX9_241 (by decide) rfl rfl M5.ob ⟨_, rfl, rfl⟩ (Nat.le_of_ble_eq_true rfl) eX9_stone_28 (fun z8 h10 e9 => ?_)
    rcases e9 with ⟨⟨rfl, Bh10⟩ | ⟨rfl, Bh10⟩, ⟨thh10, Th10, Mh10⟩, Fh10⟩
    · skip
      obtain rfl := Th10.t
      have Vh10 : am_fr h h10 n (n + 14) := am_fr.tr Vh1 (am_fr.mo Fh10 (by omega) (by omega))
      have Rh10 := Rh1.kept Fh10 (by omega)
      have Kh10 := (Fh10.2 (n + 13) (by omega)).trans Kh1
      obtain ⟨m0h10, m1h10⟩ := id Mh10
      refine AQ.of (AS.if_ne_t (tgt := 56) eX9_stone_31 (by decide) ⟨by decide, by decide⟩ (by decide)) ?_
      refine q_blk (lv2 := [(0, vr n), (1, vi k), (2, vi q)]) (st2 := [vi 0]) kX9_stone_56 rfl ?_
      exact q_ri rfl eX9_stone_57 ⟨0, rfl, 1, .inr 1, Or.inl ⟨by omega, rfl⟩, Or.inr ⟨_, rfl, rfl⟩, ⟨_, _, _, _, _, _, _, _, _, _, _, _, _, Mh10, Rh10, Kh10⟩, Vh10⟩
    · skip
      obtain rfl := Th10.f
      have Vh10 : am_fr h h10 n (n + 14) := am_fr.tr Vh1 (am_fr.mo Fh10 (by omega) (by omega))
      have Rh10 := Rh1.kept Fh10 (by omega)
      have Kh10 := (Fh10.2 (n + 13) (by omega)).trans Kh1
      obtain ⟨m0h10, m1h10⟩ := id Mh10
      refine AQ.of (AS.if_ne_f eX9_stone_31 ⟨by decide, by decide⟩ (by decide) (by decide)) ?_
      refine q_blk (lv2 := [(0, vr n), (1, vi k), (2, vi q)]) (st2 := [vi 3, vi 0, vi q, vr n]) kX9_stone_34 rfl ?_
      refine q_Si (av := [vi q, vi 0, vi 3]) (st := [vr n]) (c_X9_in (by first | assumption | exact ⟨by omega, by omega⟩) (by first | assumption | exact ⟨by omega, by omega⟩) (by first | assumption | exact ⟨by omega, by omega⟩)) lk_RX9_57 (by decide) rfl rfl (Nat.le_of_ble_eq_true rfl) eX9_stone_38 (fun z11 e12 => ?_)
      rcases e12 with ⟨rfl, e12⟩ | ⟨rfl, e12⟩
      · skip
        refine AQ.of (AS.if_ne_t (tgt := 48) eX9_stone_41 (by decide) ⟨by decide, by decide⟩ (by decide)) ?_
        refine q_blk (lv2 := [(0, vr n), (1, vi k), (2, vi q)]) (st2 := [vi 0, vr n]) kX9_stone_48 rfl ?_
        refine q_blk (lv2 := [(0, vr n), (1, vi k), (2, vi q)]) (st2 := [vi 2, vi 0, vr n]) kX9_stone_49 rfl ?_
        refine AQ.callVi (av := [vi 0, vi 2]) (st := []) (c_X9_fails Mh10 (c := 0) (e := 2) (by decide) (by omega)) lk_RX9_241 (by decide) rfl rfl Mh10.ob ⟨_, rfl, rfl⟩ (Nat.le_of_ble_eq_true rfl) eX9_stone_50 (fun z13 h15 e14 => ?_)
        rcases e14 with ⟨⟨rfl, Bh15⟩ | ⟨rfl, Bh15⟩, ⟨thh15, Th15, Mh15⟩, Fh15⟩
        · skip
          obtain rfl := Th15.t
          have Vh15 : am_fr h h15 n (n + 14) := am_fr.tr Vh10 (am_fr.mo Fh15 (by omega) (by omega))
          have Rh15 := Rh10.kept Fh15 (by omega)
          have Kh15 := (Fh15.2 (n + 13) (by omega)).trans Kh10
          obtain ⟨m0h15, m1h15⟩ := id Mh15
          refine AQ.of (AS.if_eq_f eX9_stone_53 ⟨by decide, by decide⟩ (by decide) (by decide)) ?_
          refine q_blk (lv2 := [(0, vr n), (1, vi k), (2, vi q)]) (st2 := [vi 0]) kX9_stone_56 rfl ?_
          exact q_ri rfl eX9_stone_57 ⟨0, rfl, 2, .inr 0, Or.inr ⟨⟨by omega, by omega⟩, Or.inr (Or.inr (Or.inr (Or.inr ⟨by omega, rfl⟩)))⟩, Or.inr ⟨_, rfl, rfl⟩, ⟨_, _, _, _, _, _, _, _, _, _, _, _, _, Mh15, Rh15, Kh15⟩, Vh15⟩
        · skip
          obtain rfl := Th15.f
          have Vh15 : am_fr h h15 n (n + 14) := am_fr.tr Vh10 (am_fr.mo Fh15 (by omega) (by omega))
          have Rh15 := Rh10.kept Fh15 (by omega)
          have Kh15 := (Fh15.2 (n + 13) (by omega)).trans Kh10
          obtain ⟨m0h15, m1h15⟩ := id Mh15
          refine AQ.of (AS.if_eq_t (tgt := 58) eX9_stone_53 (by decide) ⟨by decide, by decide⟩ (by decide)) ?_
          refine q_blk (lv2 := [(0, vr n), (1, vi k), (2, vi q)]) (st2 := [vi 3, vi q]) kX9_stone_58 rfl ?_
          refine AQ.ic_ne (tgt := 71) eX9_stone_60 (by decide) (by first | assumption | exact ⟨by omega, by omega⟩) ⟨by decide, by decide⟩ (fun br16 => ?_) (fun br16 => ?_)
          · skip
            refine q_blk (lv2 := [(0, vr n), (1, vi k), (2, vi q)]) (st2 := [vr n]) kX9_stone_71 rfl ?_
            refine q_gr eX9_stone_72 fl_RX9_17 (Or.inr ⟨_, rfl⟩) m0h15 rfl ?_
            refine q_blk (lv2 := [(0, vr n), (1, vi k), (2, vi q)]) (st2 := [vi ((6 + (3 * k)) + q), vr (n + 2)]) kX9_stone_75 rfl ?_
            refine q_ia eX9_stone_83 m1h15 (by decide) (by omega) (by omega) (z := (D ((6 + (3 * k)) + q))) rfl ?_
            exact q_ri rfl eX9_stone_84 ⟨(D ((6 + (3 * k)) + q)), rfl, 0, .inl (D ((6 + (3 * k)) + q)), gm_sto_d ⟨by omega, by omega⟩ ⟨by omega, by omega⟩, Or.inl ⟨_, rfl, rfl, rfl⟩, ⟨_, _, _, _, _, _, _, _, _, _, _, _, _, Mh15, Rh15, Kh15⟩, Vh15⟩
          · skip
            refine q_blk (lv2 := [(0, vr n), (1, vi k), (2, vi q)]) (st2 := [vi k, vr n]) kX9_stone_63 rfl ?_
            refine q_Vi (av := [vi k]) (st := []) (c_X9_claimerOf Mh15 hD (by omega) (by omega)) lk_RX9_270 (by decide) rfl rfl Mh15.ob ⟨_, rfl, rfl⟩ (Nat.le_of_ble_eq_true rfl) eX9_stone_65 (fun z17 e18 => ?_)
            have cr9 := e18.2
            have ck9 := gm_cmk hM (k := k) (by omega) (by omega) e18.1
            refine q_goto (tgt := 84) eX9_stone_68 (by decide) ?_
            exact q_ri rfl eX9_stone_84 ⟨z17, rfl, 0, .inl z17, Or.inr ⟨⟨by omega, by omega⟩, Or.inr (Or.inr (Or.inr (Or.inl ⟨by omega, congrArg Sum.inl ck9⟩)))⟩, Or.inl ⟨_, rfl, rfl, rfl⟩, ⟨_, _, _, _, _, _, _, _, _, _, _, _, _, Mh15, Rh15, Kh15⟩, Vh15⟩
      · skip
        refine AQ.of (AS.if_ne_f eX9_stone_41 ⟨by decide, by decide⟩ (by decide) (by decide)) ?_
        refine q_blk (lv2 := [(0, vr n), (1, vi k), (2, vi q)]) (st2 := [vi 1, vr n]) kX9_stone_44 rfl ?_
        refine q_goto (tgt := 49) eX9_stone_45 (by decide) ?_
        refine q_blk (lv2 := [(0, vr n), (1, vi k), (2, vi q)]) (st2 := [vi 2, vi 1, vr n]) kX9_stone_49 rfl ?_
        refine AQ.callVi (av := [vi 1, vi 2]) (st := []) (c_X9_fails Mh10 (c := 1) (e := 2) (by decide) (by omega)) lk_RX9_241 (by decide) rfl rfl Mh10.ob ⟨_, rfl, rfl⟩ (Nat.le_of_ble_eq_true rfl) eX9_stone_50 (fun z19 h21 e20 => ?_)
        rcases e20 with ⟨⟨rfl, Bh21⟩ | ⟨rfl, Bh21⟩, ⟨thh21, Th21, Mh21⟩, Fh21⟩
        · skip
          obtain rfl := Th21.t
          have Vh21 : am_fr h h21 n (n + 14) := am_fr.tr Vh10 (am_fr.mo Fh21 (by omega) (by omega))
          have Rh21 := Rh10.kept Fh21 (by omega)
          have Kh21 := (Fh21.2 (n + 13) (by omega)).trans Kh10
          obtain ⟨m0h21, m1h21⟩ := id Mh21
          refine AQ.of (AS.if_eq_f eX9_stone_53 ⟨by decide, by decide⟩ (by decide) (by decide)) ?_
          refine q_blk (lv2 := [(0, vr n), (1, vi k), (2, vi q)]) (st2 := [vi 0]) kX9_stone_56 rfl ?_
          exact q_ri rfl eX9_stone_57 ⟨0, rfl, 2, .inr 0, Or.inr ⟨⟨by omega, by omega⟩, Or.inr (Or.inr (Or.inr (Or.inr ⟨by omega, rfl⟩)))⟩, Or.inr ⟨_, rfl, rfl⟩, ⟨_, _, _, _, _, _, _, _, _, _, _, _, _, Mh21, Rh21, Kh21⟩, Vh21⟩
        · skip
          obtain rfl := Th21.f
          have Vh21 : am_fr h h21 n (n + 14) := am_fr.tr Vh10 (am_fr.mo Fh21 (by omega) (by omega))
          have Rh21 := Rh10.kept Fh21 (by omega)
          have Kh21 := (Fh21.2 (n + 13) (by omega)).trans Kh10
          obtain ⟨m0h21, m1h21⟩ := id Mh21
          refine AQ.of (AS.if_eq_t (tgt := 58) eX9_stone_53 (by decide) ⟨by decide, by decide⟩ (by decide)) ?_
          refine q_blk (lv2 := [(0, vr n), (1, vi k), (2, vi q)]) (st2 := [vi 3, vi q]) kX9_stone_58 rfl ?_
          refine AQ.ic_ne (tgt := 71) eX9_stone_60 (by decide) (by first | assumption | exact ⟨by omega, by omega⟩) ⟨by decide, by decide⟩ (fun br22 => ?_) (fun br22 => ?_)
          · skip
            refine q_blk (lv2 := [(0, vr n), (1, vi k), (2, vi q)]) (st2 := [vr n]) kX9_stone_71 rfl ?_
            refine q_gr eX9_stone_72 fl_RX9_17 (Or.inr ⟨_, rfl⟩) m0h21 rfl ?_
            refine q_blk (lv2 := [(0, vr n), (1, vi k), (2, vi q)]) (st2 := [vi ((6 + (3 * k)) + q), vr (n + 2)]) kX9_stone_75 rfl ?_
            refine q_ia eX9_stone_83 m1h21 (by decide) (by omega) (by omega) (z := (D ((6 + (3 * k)) + q))) rfl ?_
            exact q_ri rfl eX9_stone_84 ⟨(D ((6 + (3 * k)) + q)), rfl, 0, .inl (D ((6 + (3 * k)) + q)), gm_sto_d ⟨by omega, by omega⟩ ⟨by omega, by omega⟩, Or.inl ⟨_, rfl, rfl, rfl⟩, ⟨_, _, _, _, _, _, _, _, _, _, _, _, _, Mh21, Rh21, Kh21⟩, Vh21⟩
          · skip
            refine q_blk (lv2 := [(0, vr n), (1, vi k), (2, vi q)]) (st2 := [vi k, vr n]) kX9_stone_63 rfl ?_
            refine q_Vi (av := [vi k]) (st := []) (c_X9_claimerOf Mh21 hD (by omega) (by omega)) lk_RX9_270 (by decide) rfl rfl Mh21.ob ⟨_, rfl, rfl⟩ (Nat.le_of_ble_eq_true rfl) eX9_stone_65 (fun z23 e24 => ?_)
            have cr9 := e24.2
            have ck9 := gm_cmk hM (k := k) (by omega) (by omega) e24.1
            refine q_goto (tgt := 84) eX9_stone_68 (by decide) ?_
            exact q_ri rfl eX9_stone_84 ⟨z23, rfl, 0, .inl z23, Or.inr ⟨⟨by omega, by omega⟩, Or.inr (Or.inr (Or.inr (Or.inl ⟨by omega, congrArg Sum.inl ck9⟩)))⟩, Or.inl ⟨_, rfl, rfl, rfl⟩, ⟨_, _, _, _, _, _, _, _, _, _, _, _, _, Mh21, Rh21, Kh21⟩, Vh21⟩
  · skip
    refine AQ.of (AS.if_ne_f eX9_stone_19 ⟨by decide, by decide⟩ (by decide) (by decide)) ?_
    refine q_blk (lv2 := [(0, vr n), (1, vi k), (2, vi q)]) (st2 := [vi 1, vr n]) kX9_stone_22 rfl ?_
    refine q_goto (tgt := 27) eX9_stone_23 (by decide) ?_
    refine q_blk (lv2 := [(0, vr n), (1, vi k), (2, vi q)]) (st2 := [vi 1, vi 1, vr n]) kX9_stone_27 rfl ?_
    refine AQ.callVi (av := [vi 1, vi 1]) (st := []) (c_X9_fails M5 (c := 1) (e := 1) (by decide) (by omega)) lk_RX9_241 (by decide) rfl rfl M5.ob ⟨_, rfl, rfl⟩ (Nat.le_of_ble_eq_true rfl) eX9_stone_28 (fun z25 h27 e26 => ?_)
    rcases e26 with ⟨⟨rfl, Bh27⟩ | ⟨rfl, Bh27⟩, ⟨thh27, Th27, Mh27⟩, Fh27⟩
    · skip
      obtain rfl := Th27.t
      have Vh27 : am_fr h h27 n (n + 14) := am_fr.tr Vh1 (am_fr.mo Fh27 (by omega) (by omega))
      have Rh27 := Rh1.kept Fh27 (by omega)
      have Kh27 := (Fh27.2 (n + 13) (by omega)).trans Kh1
      obtain ⟨m0h27, m1h27⟩ := id Mh27
      refine AQ.of (AS.if_ne_t (tgt := 56) eX9_stone_31 (by decide) ⟨by decide, by decide⟩ (by decide)) ?_
      refine q_blk (lv2 := [(0, vr n), (1, vi k), (2, vi q)]) (st2 := [vi 0]) kX9_stone_56 rfl ?_
      exact q_ri rfl eX9_stone_57 ⟨0, rfl, 1, .inr 1, Or.inl ⟨by omega, rfl⟩, Or.inr ⟨_, rfl, rfl⟩, ⟨_, _, _, _, _, _, _, _, _, _, _, _, _, Mh27, Rh27, Kh27⟩, Vh27⟩
    · skip
      obtain rfl := Th27.f
      have Vh27 : am_fr h h27 n (n + 14) := am_fr.tr Vh1 (am_fr.mo Fh27 (by omega) (by omega))
      have Rh27 := Rh1.kept Fh27 (by omega)
      have Kh27 := (Fh27.2 (n + 13) (by omega)).trans Kh1
      obtain ⟨m0h27, m1h27⟩ := id Mh27
      refine AQ.of (AS.if_ne_f eX9_stone_31 ⟨by decide, by decide⟩ (by decide) (by decide)) ?_
      refine q_blk (lv2 := [(0, vr n), (1, vi k), (2, vi q)]) (st2 := [vi 3, vi 0, vi q, vr n]) kX9_stone_34 rfl ?_
      refine q_Si (av := [vi q, vi 0, vi 3]) (st := [vr n]) (c_X9_in (by first | assumption | exact ⟨by omega, by omega⟩) (by first | assumption | exact ⟨by omega, by omega⟩) (by first | assumption | exact ⟨by omega, by omega⟩)) lk_RX9_57 (by decide) rfl rfl (Nat.le_of_ble_eq_true rfl) eX9_stone_38 (fun z28 e29 => ?_)
      rcases e29 with ⟨rfl, e29⟩ | ⟨rfl, e29⟩
      · skip
        refine AQ.of (AS.if_ne_t (tgt := 48) eX9_stone_41 (by decide) ⟨by decide, by decide⟩ (by decide)) ?_
        refine q_blk (lv2 := [(0, vr n), (1, vi k), (2, vi q)]) (st2 := [vi 0, vr n]) kX9_stone_48 rfl ?_
        refine q_blk (lv2 := [(0, vr n), (1, vi k), (2, vi q)]) (st2 := [vi 2, vi 0, vr n]) kX9_stone_49 rfl ?_
        refine AQ.callVi (av := [vi 0, vi 2]) (st := []) (c_X9_fails Mh27 (c := 0) (e := 2) (by decide) (by omega)) lk_RX9_241 (by decide) rfl rfl Mh27.ob ⟨_, rfl, rfl⟩ (Nat.le_of_ble_eq_true rfl) eX9_stone_50 (fun z30 h32 e31 => ?_)
        rcases e31 with ⟨⟨rfl, Bh32⟩ | ⟨rfl, Bh32⟩, ⟨thh32, Th32, Mh32⟩, Fh32⟩
        · skip
          obtain rfl := Th32.t
          have Vh32 : am_fr h h32 n (n + 14) := am_fr.tr Vh27 (am_fr.mo Fh32 (by omega) (by omega))
          have Rh32 := Rh27.kept Fh32 (by omega)
          have Kh32 := (Fh32.2 (n + 13) (by omega)).trans Kh27
          obtain ⟨m0h32, m1h32⟩ := id Mh32
          refine AQ.of (AS.if_eq_f eX9_stone_53 ⟨by decide, by decide⟩ (by decide) (by decide)) ?_
          refine q_blk (lv2 := [(0, vr n), (1, vi k), (2, vi q)]) (st2 := [vi 0]) kX9_stone_56 rfl ?_
          exact q_ri rfl eX9_stone_57 ⟨0, rfl, 2, .inr 0, Or.inr ⟨⟨by omega, by omega⟩, Or.inr (Or.inr (Or.inr (Or.inr ⟨by omega, rfl⟩)))⟩, Or.inr ⟨_, rfl, rfl⟩, ⟨_, _, _, _, _, _, _, _, _, _, _, _, _, Mh32, Rh32, Kh32⟩, Vh32⟩
        · skip
          obtain rfl := Th32.f
          have Vh32 : am_fr h h32 n (n + 14) := am_fr.tr Vh27 (am_fr.mo Fh32 (by omega) (by omega))
          have Rh32 := Rh27.kept Fh32 (by omega)
          have Kh32 := (Fh32.2 (n + 13) (by omega)).trans Kh27
          obtain ⟨m0h32, m1h32⟩ := id Mh32
          refine AQ.of (AS.if_eq_t (tgt := 58) eX9_stone_53 (by decide) ⟨by decide, by decide⟩ (by decide)) ?_
          refine q_blk (lv2 := [(0, vr n), (1, vi k), (2, vi q)]) (st2 := [vi 3, vi q]) kX9_stone_58 rfl ?_
          refine AQ.ic_ne (tgt := 71) eX9_stone_60 (by decide) (by first | assumption | exact ⟨by omega, by omega⟩) ⟨by decide, by decide⟩ (fun br33 => ?_) (fun br33 => ?_)
          · skip
            refine q_blk (lv2 := [(0, vr n), (1, vi k), (2, vi q)]) (st2 := [vr n]) kX9_stone_71 rfl ?_
            refine q_gr eX9_stone_72 fl_RX9_17 (Or.inr ⟨_, rfl⟩) m0h32 rfl ?_
            refine q_blk (lv2 := [(0, vr n), (1, vi k), (2, vi q)]) (st2 := [vi ((6 + (3 * k)) + q), vr (n + 2)]) kX9_stone_75 rfl ?_
            refine q_ia eX9_stone_83 m1h32 (by decide) (by omega) (by omega) (z := (D ((6 + (3 * k)) + q))) rfl ?_
            exact q_ri rfl eX9_stone_84 ⟨(D ((6 + (3 * k)) + q)), rfl, 0, .inl (D ((6 + (3 * k)) + q)), gm_sto_d ⟨by omega, by omega⟩ ⟨by omega, by omega⟩, Or.inl ⟨_, rfl, rfl, rfl⟩, ⟨_, _, _, _, _, _, _, _, _, _, _, _, _, Mh32, Rh32, Kh32⟩, Vh32⟩
          · skip
            refine q_blk (lv2 := [(0, vr n), (1, vi k), (2, vi q)]) (st2 := [vi k, vr n]) kX9_stone_63 rfl ?_
            refine q_Vi (av := [vi k]) (st := []) (c_X9_claimerOf Mh32 hD (by omega) (by omega)) lk_RX9_270 (by decide) rfl rfl Mh32.ob ⟨_, rfl, rfl⟩ (Nat.le_of_ble_eq_true rfl) eX9_stone_65 (fun z34 e35 => ?_)
            have cr9 := e35.2
            have ck9 := gm_cmk hM (k := k) (by omega) (by omega) e35.1
            refine q_goto (tgt := 84) eX9_stone_68 (by decide) ?_
            exact q_ri rfl eX9_stone_84 ⟨z34, rfl, 0, .inl z34, Or.inr ⟨⟨by omega, by omega⟩, Or.inr (Or.inr (Or.inr (Or.inl ⟨by omega, congrArg Sum.inl ck9⟩)))⟩, Or.inl ⟨_, rfl, rfl, rfl⟩, ⟨_, _, _, _, _, _, _, _, _, _, _, _, _, Mh32, Rh32, Kh32⟩, Vh32⟩
      · skip
        refine AQ.of (AS.if_ne_f eX9_stone_41 ⟨by decide, by decide⟩ (by decide) (by decide)) ?_
        refine q_blk (lv2 := [(0, vr n), (1, vi k), (2, vi q)]) (st2 := [vi 1, vr n]) kX9_stone_44 rfl ?_
        refine q_goto (tgt := 49) eX9_stone_45 (by decide) ?_
        refine q_blk (lv2 := [(0, vr n), (1, vi k), (2, vi q)]) (st2 := [vi 2, vi 1, vr n]) kX9_stone_49 rfl ?_
        refine AQ.callVi (av := [vi 1, vi 2]) (st := []) (c_X9_fails Mh27 (c := 1) (e := 2) (by decide) (by omega)) lk_RX9_241 (by decide) rfl rfl Mh27.ob ⟨_, rfl, rfl⟩ (Nat.le_of_ble_eq_true rfl) eX9_stone_50 (fun z36 h38 e37 => ?_)
        rcases e37 with ⟨⟨rfl, Bh38⟩ | ⟨rfl, Bh38⟩, ⟨thh38, Th38, Mh38⟩, Fh38⟩
        · skip
          obtain rfl := Th38.t
          have Vh38 : am_fr h h38 n (n + 14) := am_fr.tr Vh27 (am_fr.mo Fh38 (by omega) (by omega))
          have Rh38 := Rh27.kept Fh38 (by omega)
          have Kh38 := (Fh38.2 (n + 13) (by omega)).trans Kh27
          obtain ⟨m0h38, m1h38⟩ := id Mh38
          refine AQ.of (AS.if_eq_f eX9_stone_53 ⟨by decide, by decide⟩ (by decide) (by decide)) ?_
          refine q_blk (lv2 := [(0, vr n), (1, vi k), (2, vi q)]) (st2 := [vi 0]) kX9_stone_56 rfl ?_
          exact q_ri rfl eX9_stone_57 ⟨0, rfl, 2, .inr 0, Or.inr ⟨⟨by omega, by omega⟩, Or.inr (Or.inr (Or.inr (Or.inr ⟨by omega, rfl⟩)))⟩, Or.inr ⟨_, rfl, rfl⟩, ⟨_, _, _, _, _, _, _, _, _, _, _, _, _, Mh38, Rh38, Kh38⟩, Vh38⟩
        · skip
          obtain rfl := Th38.f
          have Vh38 : am_fr h h38 n (n + 14) := am_fr.tr Vh27 (am_fr.mo Fh38 (by omega) (by omega))
          have Rh38 := Rh27.kept Fh38 (by omega)
          have Kh38 := (Fh38.2 (n + 13) (by omega)).trans Kh27
          obtain ⟨m0h38, m1h38⟩ := id Mh38
          refine AQ.of (AS.if_eq_t (tgt := 58) eX9_stone_53 (by decide) ⟨by decide, by decide⟩ (by decide)) ?_
          refine q_blk (lv2 := [(0, vr n), (1, vi k), (2, vi q)]) (st2 := [vi 3, vi q]) kX9_stone_58 rfl ?_
          refine AQ.ic_ne (tgt := 71) eX9_stone_60 (by decide) (by first | assumption | exact ⟨by omega, by omega⟩) ⟨by decide, by decide⟩ (fun br39 => ?_) (fun br39 => ?_)
          · skip
            refine q_blk (lv2 := [(0, vr n), (1, vi k), (2, vi q)]) (st2 := [vr n]) kX9_stone_71 rfl ?_
            refine q_gr eX9_stone_72 fl_RX9_17 (Or.inr ⟨_, rfl⟩) m0h38 rfl ?_
            refine q_blk (lv2 := [(0, vr n), (1, vi k), (2, vi q)]) (st2 := [vi ((6 + (3 * k)) + q), vr (n + 2)]) kX9_stone_75 rfl ?_
            refine q_ia eX9_stone_83 m1h38 (by decide) (by omega) (by omega) (z := (D ((6 + (3 * k)) + q))) rfl ?_
            exact q_ri rfl eX9_stone_84 ⟨(D ((6 + (3 * k)) + q)), rfl, 0, .inl (D ((6 + (3 * k)) + q)), gm_sto_d ⟨by omega, by omega⟩ ⟨by omega, by omega⟩, Or.inl ⟨_, rfl, rfl, rfl⟩, ⟨_, _, _, _, _, _, _, _, _, _, _, _, _, Mh38, Rh38, Kh38⟩, Vh38⟩
          · skip
            refine q_blk (lv2 := [(0, vr n), (1, vi k), (2, vi q)]) (st2 := [vi k, vr n]) kX9_stone_63 rfl ?_
            refine q_Vi (av := [vi k]) (st := []) (c_X9_claimerOf Mh38 hD (by omega) (by omega)) lk_RX9_270 (by decide) rfl rfl Mh38.ob ⟨_, rfl, rfl⟩ (Nat.le_of_ble_eq_true rfl) eX9_stone_65 (fun z40 e41 => ?_)
            have cr9 := e41.2
            have ck9 := gm_cmk hM (k := k) (by omega) (by omega) e41.1
            refine q_goto (tgt := 84) eX9_stone_68 (by decide) ?_
            exact q_ri rfl eX9_stone_84 ⟨z40, rfl, 0, .inl z40, Or.inr ⟨⟨by omega, by omega⟩, Or.inr (Or.inr (Or.inr (Or.inl ⟨by omega, congrArg Sum.inl ck9⟩)))⟩, Or.inl ⟨_, rfl, rfl, rfl⟩, ⟨_, _, _, _, _, _, _, _, _, _, _, _, _, Mh38, Rh38, Kh38⟩, Vh38⟩

set_option maxHeartbeats 1000000 in
theorem c_X9_polygon {w : am_w} {h : AH} {n : Nat} {th bl eo ud : Int} {bf : Int → Int} {rw : Int → Int → Int} {D : Int → Int} (hA : MA h n th bl eo ud bf rw D) (hD : VD D) {p q : Int} (r_p : am_r p) (r_q : am_r q)  : AE w m_X9_polygon 8 [vr n, vi p, vi q] h (am_int (fun z h1 => ∃ th' r, (gA_p D p (gA_pol D p q)) r ∧ gm_an (fun k => if k = 2 then 1 else 2) r th' z ∧ MA h1 n th' bl eo ud bf rw D ∧ am_fr h h1 n (n + 14))) := by
  refine AE.of wf_X9_polygon (Nat.le_of_ble_eq_true rfl) (am_ok_i) ?_
  obtain ⟨tl, ps, er, ea, g0, g1, g2, g3, ns, ne, se, od, sk, hm, hR, hK⟩ := hA
  obtain ⟨m0, m1⟩ := id hm
  have d0 := hD.1
  have d1 := hD.2.1
  have d2 := hD.2.2.1
  have d3 := hD.2.2.2.1
  refine q_blk (lv2 := [(0, vr n), (1, vi p), (2, vi q)]) (st2 := [vi 0, vr n]) kX9_polygon_0 rfl ?_
  refine q_pi eX9_polygon_2 fl_RX9_32 (fun q hq => by cases hq; exact Or.inl rfl) (Or.inl rfl) m0 (Nat.le_of_ble_eq_true rfl) (l2 := [0, 0, bl, tl, ps, er, ea, eo, 0, 0, 0, ud, g0, g1, g2, g3, ns, ne, se, 0]) rfl (fun h1 e2 => ?_)
  have k3 := am_at e2
  have k4 := (am_ne e2 (n + 2) (by omega)).trans m1
  have k5 := (am_ne e2 (n + 13) (by omega)).trans hK
  have M5 : MM h1 n 0 bl tl ps er ea eo ud g0 g1 g2 g3 ns ne se D := ⟨k3, k4⟩
  have F5 : am_fr h h1 n (n + 1) := am_fr.st e2 (by omega) (by omega)
  have Vh1 : am_fr h h1 n (n + 14) := am_fr.mo F5 (by omega) (by omega)
  have Rh1 := hR.kept F5 (by omega)
  have Kh1 := (F5.2 (n + 13) (by omega)).trans hK
  obtain ⟨m0h1, m1h1⟩ := id M5
  refine q_blk (lv2 := [(0, vr n), (1, vi p), (2, vi q)]) (st2 := [vi p, vr n]) kX9_polygon_5 rfl ?_
  refine AQ.callVi (av := [vi p]) (st := []) (c_X9_noPolygon M5 hD (by first | assumption | exact ⟨by omega, by omega⟩)) lk_RX9_300 (by decide) rfl rfl M5.ob ⟨_, rfl, rfl⟩ (Nat.le_of_ble_eq_true rfl) eX9_polygon_7 (fun z6 h8 e7 => ?_)
  rcases e7 with ⟨⟨rfl, Bh8⟩ | ⟨rfl, Bh8⟩, ⟨thh8, Th8, Mh8⟩, Fh8⟩
  · skip
    obtain rfl := Th8.t
    have Vh8 : am_fr h h8 n (n + 14) := am_fr.tr Vh1 (am_fr.mo Fh8 (by omega) (by omega))
    have Rh8 := Rh1.kept Fh8 (by omega)
    have Kh8 := (Fh8.2 (n + 13) (by omega)).trans Kh1
    obtain ⟨m0h8, m1h8⟩ := id Mh8
    refine AQ.of (AS.if_ne_t (tgt := 35) eX9_polygon_10 (by decide) ⟨by decide, by decide⟩ (by decide)) ?_
    refine q_blk (lv2 := [(0, vr n), (1, vi p), (2, vi q)]) (st2 := [vi 0]) kX9_polygon_35 rfl ?_
    refine q_goto (tgt := 50) eX9_polygon_36 (by decide) ?_
    exact q_ri rfl eX9_polygon_50 ⟨0, rfl, 1, .inr 2, Or.inl ⟨by omega, rfl⟩, Or.inr ⟨_, rfl, rfl⟩, ⟨_, _, _, _, _, _, _, _, _, _, _, _, _, Mh8, Rh8, Kh8⟩, Vh8⟩
  · skip
    obtain rfl := Th8.f
    have Vh8 : am_fr h h8 n (n + 14) := am_fr.tr Vh1 (am_fr.mo Fh8 (by omega) (by omega))
    have Rh8 := Rh1.kept Fh8 (by omega)
    have Kh8 := (Fh8.2 (n + 13) (by omega)).trans Kh1
    obtain ⟨m0h8, m1h8⟩ := id Mh8
    refine AQ.of (AS.if_ne_f eX9_polygon_10 ⟨by decide, by decide⟩ (by decide) (by decide)) ?_
    refine q_blk (lv2 := [(0, vr n), (1, vi p), (2, vi q)]) (st2 := [vi 2, vi 0, vi q, vr n]) kX9_polygon_13 rfl ?_
    refine q_Si (av := [vi q, vi 0, vi 2]) (st := [vr n]) (c_X9_in (by first | assumption | exact ⟨by omega, by omega⟩) (by first | assumption | exact ⟨by omega, by omega⟩) (by first | assumption | exact ⟨by omega, by omega⟩)) lk_RX9_57 (by decide) rfl rfl (Nat.le_of_ble_eq_true rfl) eX9_polygon_17 (fun z9 e10 => ?_)
    rcases e10 with ⟨rfl, e10⟩ | ⟨rfl, e10⟩
    · skip
      refine AQ.of (AS.if_ne_t (tgt := 27) eX9_polygon_20 (by decide) ⟨by decide, by decide⟩ (by decide)) ?_
      refine q_blk (lv2 := [(0, vr n), (1, vi p), (2, vi q)]) (st2 := [vi 0, vr n]) kX9_polygon_27 rfl ?_
      refine q_blk (lv2 := [(0, vr n), (1, vi p), (2, vi q)]) (st2 := [vi 2, vi 0, vr n]) kX9_polygon_28 rfl ?_
      refine AQ.callVi (av := [vi 0, vi 2]) (st := []) (c_X9_fails Mh8 (c := 0) (e := 2) (by decide) (by omega)) lk_RX9_241 (by decide) rfl rfl Mh8.ob ⟨_, rfl, rfl⟩ (Nat.le_of_ble_eq_true rfl) eX9_polygon_29 (fun z11 h13 e12 => ?_)
      rcases e12 with ⟨⟨rfl, Bh13⟩ | ⟨rfl, Bh13⟩, ⟨thh13, Th13, Mh13⟩, Fh13⟩
      · skip
        obtain rfl := Th13.t
        have Vh13 : am_fr h h13 n (n + 14) := am_fr.tr Vh8 (am_fr.mo Fh13 (by omega) (by omega))
        have Rh13 := Rh8.kept Fh13 (by omega)
        have Kh13 := (Fh13.2 (n + 13) (by omega)).trans Kh8
        obtain ⟨m0h13, m1h13⟩ := id Mh13
        refine AQ.of (AS.if_eq_f eX9_polygon_32 ⟨by decide, by decide⟩ (by decide) (by decide)) ?_
        refine q_blk (lv2 := [(0, vr n), (1, vi p), (2, vi q)]) (st2 := [vi 0]) kX9_polygon_35 rfl ?_
        refine q_goto (tgt := 50) eX9_polygon_36 (by decide) ?_
        exact q_ri rfl eX9_polygon_50 ⟨0, rfl, 2, .inr 0, Or.inr ⟨⟨by omega, by omega⟩, Or.inr (Or.inr (Or.inr ⟨by omega, rfl⟩))⟩, Or.inr ⟨_, rfl, rfl⟩, ⟨_, _, _, _, _, _, _, _, _, _, _, _, _, Mh13, Rh13, Kh13⟩, Vh13⟩
      · skip
        obtain rfl := Th13.f
        have Vh13 : am_fr h h13 n (n + 14) := am_fr.tr Vh8 (am_fr.mo Fh13 (by omega) (by omega))
        have Rh13 := Rh8.kept Fh13 (by omega)
        have Kh13 := (Fh13.2 (n + 13) (by omega)).trans Kh8
        obtain ⟨m0h13, m1h13⟩ := id Mh13
        refine AQ.of (AS.if_eq_t (tgt := 39) eX9_polygon_32 (by decide) ⟨by decide, by decide⟩ (by decide)) ?_
        refine q_blk (lv2 := [(0, vr n), (1, vi p), (2, vi q)]) (st2 := [vr n]) kX9_polygon_39 rfl ?_
        refine q_gr eX9_polygon_40 fl_RX9_17 (Or.inr ⟨_, rfl⟩) m0h13 rfl ?_
        refine q_blk (lv2 := [(0, vr n), (1, vi p), (2, vi q)]) (st2 := [vi p, vr (n + 2)]) kX9_polygon_43 rfl ?_
        refine q_Si (av := [vi p]) (st := [vr (n + 2)]) c_X9_at lk_RX9_35 (by decide) rfl rfl (Nat.le_of_ble_eq_true rfl) eX9_polygon_44 (fun z14 e15 => ?_)
        subst e15
        refine q_blk (lv2 := [(0, vr n), (1, vi p), (2, vi q)]) (st2 := [vi ((66 + (27 * p)) + q), vr (n + 2)]) kX9_polygon_47 rfl ?_
        refine q_ia eX9_polygon_49 m1h13 (by decide) (by omega) (by omega) (z := (D ((66 + (27 * p)) + q))) rfl ?_
        exact q_ri rfl eX9_polygon_50 ⟨(D ((66 + (27 * p)) + q)), rfl, 0, .inl (D ((66 + (27 * p)) + q)), Or.inr ⟨⟨by omega, by omega⟩, gm_pol_d ⟨by omega, by omega⟩⟩, Or.inl ⟨_, rfl, rfl, rfl⟩, ⟨_, _, _, _, _, _, _, _, _, _, _, _, _, Mh13, Rh13, Kh13⟩, Vh13⟩
    · skip
      refine AQ.of (AS.if_ne_f eX9_polygon_20 ⟨by decide, by decide⟩ (by decide) (by decide)) ?_
      refine q_blk (lv2 := [(0, vr n), (1, vi p), (2, vi q)]) (st2 := [vi 1, vr n]) kX9_polygon_23 rfl ?_
      refine q_goto (tgt := 28) eX9_polygon_24 (by decide) ?_
      refine q_blk (lv2 := [(0, vr n), (1, vi p), (2, vi q)]) (st2 := [vi 2, vi 1, vr n]) kX9_polygon_28 rfl ?_
      refine AQ.callVi (av := [vi 1, vi 2]) (st := []) (c_X9_fails Mh8 (c := 1) (e := 2) (by decide) (by omega)) lk_RX9_241 (by decide) rfl rfl Mh8.ob ⟨_, rfl, rfl⟩ (Nat.le_of_ble_eq_true rfl) eX9_polygon_29 (fun z16 h18 e17 => ?_)
      rcases e17 with ⟨⟨rfl, Bh18⟩ | ⟨rfl, Bh18⟩, ⟨thh18, Th18, Mh18⟩, Fh18⟩
      · skip
        obtain rfl := Th18.t
        have Vh18 : am_fr h h18 n (n + 14) := am_fr.tr Vh8 (am_fr.mo Fh18 (by omega) (by omega))
        have Rh18 := Rh8.kept Fh18 (by omega)
        have Kh18 := (Fh18.2 (n + 13) (by omega)).trans Kh8
        obtain ⟨m0h18, m1h18⟩ := id Mh18
        refine AQ.of (AS.if_eq_f eX9_polygon_32 ⟨by decide, by decide⟩ (by decide) (by decide)) ?_
        refine q_blk (lv2 := [(0, vr n), (1, vi p), (2, vi q)]) (st2 := [vi 0]) kX9_polygon_35 rfl ?_
        refine q_goto (tgt := 50) eX9_polygon_36 (by decide) ?_
        exact q_ri rfl eX9_polygon_50 ⟨0, rfl, 2, .inr 0, Or.inr ⟨⟨by omega, by omega⟩, Or.inr (Or.inr (Or.inr ⟨by omega, rfl⟩))⟩, Or.inr ⟨_, rfl, rfl⟩, ⟨_, _, _, _, _, _, _, _, _, _, _, _, _, Mh18, Rh18, Kh18⟩, Vh18⟩
      · skip
        obtain rfl := Th18.f
        have Vh18 : am_fr h h18 n (n + 14) := am_fr.tr Vh8 (am_fr.mo Fh18 (by omega) (by omega))
        have Rh18 := Rh8.kept Fh18 (by omega)
        have Kh18 := (Fh18.2 (n + 13) (by omega)).trans Kh8
        obtain ⟨m0h18, m1h18⟩ := id Mh18
        refine AQ.of (AS.if_eq_t (tgt := 39) eX9_polygon_32 (by decide) ⟨by decide, by decide⟩ (by decide)) ?_
        refine q_blk (lv2 := [(0, vr n), (1, vi p), (2, vi q)]) (st2 := [vr n]) kX9_polygon_39 rfl ?_
        refine q_gr eX9_polygon_40 fl_RX9_17 (Or.inr ⟨_, rfl⟩) m0h18 rfl ?_
        refine q_blk (lv2 := [(0, vr n), (1, vi p), (2, vi q)]) (st2 := [vi p, vr (n + 2)]) kX9_polygon_43 rfl ?_
        refine q_Si (av := [vi p]) (st := [vr (n + 2)]) c_X9_at lk_RX9_35 (by decide) rfl rfl (Nat.le_of_ble_eq_true rfl) eX9_polygon_44 (fun z19 e20 => ?_)
        subst e20
        refine q_blk (lv2 := [(0, vr n), (1, vi p), (2, vi q)]) (st2 := [vi ((66 + (27 * p)) + q), vr (n + 2)]) kX9_polygon_47 rfl ?_
        refine q_ia eX9_polygon_49 m1h18 (by decide) (by omega) (by omega) (z := (D ((66 + (27 * p)) + q))) rfl ?_
        exact q_ri rfl eX9_polygon_50 ⟨(D ((66 + (27 * p)) + q)), rfl, 0, .inl (D ((66 + (27 * p)) + q)), Or.inr ⟨⟨by omega, by omega⟩, gm_pol_d ⟨by omega, by omega⟩⟩, Or.inl ⟨_, rfl, rfl, rfl⟩, ⟨_, _, _, _, _, _, _, _, _, _, _, _, _, Mh18, Rh18, Kh18⟩, Vh18⟩

set_option maxHeartbeats 1000000 in
theorem c_X9_cornerAt {w : am_w} {h : AH} {n : Nat} {th bl eo ud : Int} {bf : Int → Int} {rw : Int → Int → Int} {D : Int → Int} (hA : MA h n th bl eo ud bf rw D) (hD : VD D) {p k : Int} (r_p : am_r p) (r_k : am_r k)  : AE w m_X9_cornerAt 8 [vr n, vi p, vi k] h (am_int (fun z h1 => ∃ th' r, (gA_p D p (gA_k D p k (fun r => r = .inl (100 * pX D p k + pY D p k)))) r ∧ gm_an (fun k => if k = 2 then 1 else 2) r th' z ∧ MA h1 n th' bl eo ud bf rw D ∧ am_fr h h1 n (n + 14))) := by
  refine AE.of wf_X9_cornerAt (Nat.le_of_ble_eq_true rfl) (am_ok_i) ?_
  obtain ⟨tl, ps, er, ea, g0, g1, g2, g3, ns, ne, se, od, sk, hm, hR, hK⟩ := hA
  obtain ⟨m0, m1⟩ := id hm
  have d0 := hD.1
  have d1 := hD.2.1
  have d2 := hD.2.2.1
  have d3 := hD.2.2.2.1
  refine q_blk (lv2 := [(0, vr n), (1, vi p), (2, vi k)]) (st2 := [vi 0, vr n]) kX9_cornerAt_0 rfl ?_
  refine q_pi eX9_cornerAt_2 fl_RX9_32 (fun q hq => by cases hq; exact Or.inl rfl) (Or.inl rfl) m0 (Nat.le_of_ble_eq_true rfl) (l2 := [0, 0, bl, tl, ps, er, ea, eo, 0, 0, 0, ud, g0, g1, g2, g3, ns, ne, se, 0]) rfl (fun h1 e2 => ?_)
  have k3 := am_at e2
  have k4 := (am_ne e2 (n + 2) (by omega)).trans m1
  have k5 := (am_ne e2 (n + 13) (by omega)).trans hK
  have M5 : MM h1 n 0 bl tl ps er ea eo ud g0 g1 g2 g3 ns ne se D := ⟨k3, k4⟩
  have F5 : am_fr h h1 n (n + 1) := am_fr.st e2 (by omega) (by omega)
  have Vh1 : am_fr h h1 n (n + 14) := am_fr.mo F5 (by omega) (by omega)
  have Rh1 := hR.kept F5 (by omega)
  have Kh1 := (F5.2 (n + 13) (by omega)).trans hK
  obtain ⟨m0h1, m1h1⟩ := id M5
  refine q_blk (lv2 := [(0, vr n), (1, vi p), (2, vi k)]) (st2 := [vi p, vr n]) kX9_cornerAt_5 rfl ?_
  refine AQ.callVi (av := [vi p]) (st := []) (c_X9_noPolygon M5 hD (by first | assumption | exact ⟨by omega, by omega⟩)) lk_RX9_300 (by decide) rfl rfl M5.ob ⟨_, rfl, rfl⟩ (Nat.le_of_ble_eq_true rfl) eX9_cornerAt_7 (fun z6 h8 e7 => ?_)
  rcases e7 with ⟨⟨rfl, Bh8⟩ | ⟨rfl, Bh8⟩, ⟨thh8, Th8, Mh8⟩, Fh8⟩
  · skip
    obtain rfl := Th8.t
    have Vh8 : am_fr h h8 n (n + 14) := am_fr.tr Vh1 (am_fr.mo Fh8 (by omega) (by omega))
    have Rh8 := Rh1.kept Fh8 (by omega)
    have Kh8 := (Fh8.2 (n + 13) (by omega)).trans Kh1
    obtain ⟨m0h8, m1h8⟩ := id Mh8
    refine AQ.of (AS.if_ne_t (tgt := 41) eX9_cornerAt_10 (by decide) ⟨by decide, by decide⟩ (by decide)) ?_
    refine q_blk (lv2 := [(0, vr n), (1, vi p), (2, vi k)]) (st2 := [vi 0]) kX9_cornerAt_41 rfl ?_
    refine q_goto (tgt := 61) eX9_cornerAt_42 (by decide) ?_
    exact q_ri rfl eX9_cornerAt_61 ⟨0, rfl, 1, .inr 2, Or.inl ⟨by omega, rfl⟩, Or.inr ⟨_, rfl, rfl⟩, ⟨_, _, _, _, _, _, _, _, _, _, _, _, _, Mh8, Rh8, Kh8⟩, Vh8⟩
  · skip
    obtain rfl := Th8.f
    have Vh8 : am_fr h h8 n (n + 14) := am_fr.tr Vh1 (am_fr.mo Fh8 (by omega) (by omega))
    have Rh8 := Rh1.kept Fh8 (by omega)
    have Kh8 := (Fh8.2 (n + 13) (by omega)).trans Kh1
    obtain ⟨m0h8, m1h8⟩ := id Mh8
    refine AQ.of (AS.if_ne_f eX9_cornerAt_10 ⟨by decide, by decide⟩ (by decide) (by decide)) ?_
    have hn := hD.n (p := p) (by omega) (by omega)
    refine q_blk (lv2 := [(0, vr n), (1, vi p), (2, vi k)]) (st2 := [vi p, vr n, vi 0, vi k, vr n]) kX9_cornerAt_13 rfl ?_
    refine q_Vi (av := [vi p]) (st := [vi 0, vi k, vr n]) (c_X9_countOf Mh8 hD (by omega) (by omega)) lk_RX9_39 (by decide) rfl rfl Mh8.ob ⟨_, rfl, rfl⟩ (Nat.le_of_ble_eq_true rfl) eX9_cornerAt_18 (fun z9 e10 => ?_)
    subst e10
    refine q_blk (lv2 := [(0, vr n), (1, vi p), (2, vi k)]) (st2 := [vi ((pN D p) - 1), vi 0, vi k, vr n]) kX9_cornerAt_21 rfl ?_
    refine q_Si (av := [vi k, vi 0, vi ((pN D p) - 1)]) (st := [vr n]) (c_X9_in (by first | assumption | exact ⟨by omega, by omega⟩) (by first | assumption | exact ⟨by omega, by omega⟩) (by first | assumption | exact ⟨by omega, by omega⟩)) lk_RX9_57 (by decide) rfl rfl (Nat.le_of_ble_eq_true rfl) eX9_cornerAt_23 (fun z11 e12 => ?_)
    rcases e12 with ⟨rfl, e12⟩ | ⟨rfl, e12⟩
    · skip
      refine AQ.of (AS.if_ne_t (tgt := 33) eX9_cornerAt_26 (by decide) ⟨by decide, by decide⟩ (by decide)) ?_
      refine q_blk (lv2 := [(0, vr n), (1, vi p), (2, vi k)]) (st2 := [vi 0, vr n]) kX9_cornerAt_33 rfl ?_
      refine q_blk (lv2 := [(0, vr n), (1, vi p), (2, vi k)]) (st2 := [vi 2, vi 0, vr n]) kX9_cornerAt_34 rfl ?_
      refine AQ.callVi (av := [vi 0, vi 2]) (st := []) (c_X9_fails Mh8 (c := 0) (e := 2) (by decide) (by omega)) lk_RX9_241 (by decide) rfl rfl Mh8.ob ⟨_, rfl, rfl⟩ (Nat.le_of_ble_eq_true rfl) eX9_cornerAt_35 (fun z13 h15 e14 => ?_)
      rcases e14 with ⟨⟨rfl, Bh15⟩ | ⟨rfl, Bh15⟩, ⟨thh15, Th15, Mh15⟩, Fh15⟩
      · skip
        obtain rfl := Th15.t
        have Vh15 : am_fr h h15 n (n + 14) := am_fr.tr Vh8 (am_fr.mo Fh15 (by omega) (by omega))
        have Rh15 := Rh8.kept Fh15 (by omega)
        have Kh15 := (Fh15.2 (n + 13) (by omega)).trans Kh8
        obtain ⟨m0h15, m1h15⟩ := id Mh15
        refine AQ.of (AS.if_eq_f eX9_cornerAt_38 ⟨by decide, by decide⟩ (by decide) (by decide)) ?_
        refine q_blk (lv2 := [(0, vr n), (1, vi p), (2, vi k)]) (st2 := [vi 0]) kX9_cornerAt_41 rfl ?_
        refine q_goto (tgt := 61) eX9_cornerAt_42 (by decide) ?_
        exact q_ri rfl eX9_cornerAt_61 ⟨0, rfl, 2, .inr 1, Or.inr ⟨⟨by omega, by omega⟩, Or.inl ⟨by omega, rfl⟩⟩, Or.inr ⟨_, rfl, rfl⟩, ⟨_, _, _, _, _, _, _, _, _, _, _, _, _, Mh15, Rh15, Kh15⟩, Vh15⟩
      · skip
        obtain rfl := Th15.f
        have Vh15 : am_fr h h15 n (n + 14) := am_fr.tr Vh8 (am_fr.mo Fh15 (by omega) (by omega))
        have Rh15 := Rh8.kept Fh15 (by omega)
        have Kh15 := (Fh15.2 (n + 13) (by omega)).trans Kh8
        obtain ⟨m0h15, m1h15⟩ := id Mh15
        refine AQ.of (AS.if_eq_t (tgt := 45) eX9_cornerAt_38 (by decide) ⟨by decide, by decide⟩ (by decide)) ?_
        have hc9 := hD.c (p := p) (k := k) (by omega) (by omega) (by omega) (by omega)
        obtain ⟨hc8, hc7⟩ := id hc9
        unfold am_c at hc8 hc7
        refine q_blk (lv2 := [(0, vr n), (1, vi p), (2, vi k)]) (st2 := [vi k, vi p, vr n, vi 100]) kX9_cornerAt_45 rfl ?_
        refine q_Vi (av := [vi p, vi k]) (st := [vi 100]) (c_X9_xOf Mh15 hD (by omega) (by omega) (by omega) (by omega)) lk_RX9_72 (by decide) rfl rfl Mh15.ob ⟨_, rfl, rfl⟩ (Nat.le_of_ble_eq_true rfl) eX9_cornerAt_50 (fun z16 e17 => ?_)
        subst e17
        refine q_blk (lv2 := [(0, vr n), (1, vi p), (2, vi k)]) (st2 := [vi k, vi p, vr n, vi (100 * (pX D p k))]) kX9_cornerAt_53 rfl ?_
        refine q_Vi (av := [vi p, vi k]) (st := [vi (100 * (pX D p k))]) (c_X9_yOf Mh15 hD (by omega) (by omega) (by omega) (by omega)) lk_RX9_75 (by decide) rfl rfl Mh15.ob ⟨_, rfl, rfl⟩ (Nat.le_of_ble_eq_true rfl) eX9_cornerAt_57 (fun z18 e19 => ?_)
        subst e19
        refine q_blk (lv2 := [(0, vr n), (1, vi p), (2, vi k)]) (st2 := [vi ((100 * (pX D p k)) + (pY D p k))]) kX9_cornerAt_60 rfl ?_
        exact q_ri rfl eX9_cornerAt_61 ⟨((100 * (pX D p k)) + (pY D p k)), rfl, 0, .inl ((100 * (pX D p k)) + (pY D p k)), Or.inr ⟨⟨by omega, by omega⟩, Or.inr ⟨⟨by omega, by omega⟩, rfl⟩⟩, Or.inl ⟨_, rfl, rfl, rfl⟩, ⟨_, _, _, _, _, _, _, _, _, _, _, _, _, Mh15, Rh15, Kh15⟩, Vh15⟩
    · skip
      refine AQ.of (AS.if_ne_f eX9_cornerAt_26 ⟨by decide, by decide⟩ (by decide) (by decide)) ?_
      refine q_blk (lv2 := [(0, vr n), (1, vi p), (2, vi k)]) (st2 := [vi 1, vr n]) kX9_cornerAt_29 rfl ?_
      refine q_goto (tgt := 34) eX9_cornerAt_30 (by decide) ?_
      refine q_blk (lv2 := [(0, vr n), (1, vi p), (2, vi k)]) (st2 := [vi 2, vi 1, vr n]) kX9_cornerAt_34 rfl ?_
      refine AQ.callVi (av := [vi 1, vi 2]) (st := []) (c_X9_fails Mh8 (c := 1) (e := 2) (by decide) (by omega)) lk_RX9_241 (by decide) rfl rfl Mh8.ob ⟨_, rfl, rfl⟩ (Nat.le_of_ble_eq_true rfl) eX9_cornerAt_35 (fun z20 h22 e21 => ?_)
      rcases e21 with ⟨⟨rfl, Bh22⟩ | ⟨rfl, Bh22⟩, ⟨thh22, Th22, Mh22⟩, Fh22⟩
      · skip
        obtain rfl := Th22.t
        have Vh22 : am_fr h h22 n (n + 14) := am_fr.tr Vh8 (am_fr.mo Fh22 (by omega) (by omega))
        have Rh22 := Rh8.kept Fh22 (by omega)
        have Kh22 := (Fh22.2 (n + 13) (by omega)).trans Kh8
        obtain ⟨m0h22, m1h22⟩ := id Mh22
        refine AQ.of (AS.if_eq_f eX9_cornerAt_38 ⟨by decide, by decide⟩ (by decide) (by decide)) ?_
        refine q_blk (lv2 := [(0, vr n), (1, vi p), (2, vi k)]) (st2 := [vi 0]) kX9_cornerAt_41 rfl ?_
        refine q_goto (tgt := 61) eX9_cornerAt_42 (by decide) ?_
        exact q_ri rfl eX9_cornerAt_61 ⟨0, rfl, 2, .inr 1, Or.inr ⟨⟨by omega, by omega⟩, Or.inl ⟨by omega, rfl⟩⟩, Or.inr ⟨_, rfl, rfl⟩, ⟨_, _, _, _, _, _, _, _, _, _, _, _, _, Mh22, Rh22, Kh22⟩, Vh22⟩
      · skip
        obtain rfl := Th22.f
        have Vh22 : am_fr h h22 n (n + 14) := am_fr.tr Vh8 (am_fr.mo Fh22 (by omega) (by omega))
        have Rh22 := Rh8.kept Fh22 (by omega)
        have Kh22 := (Fh22.2 (n + 13) (by omega)).trans Kh8
        obtain ⟨m0h22, m1h22⟩ := id Mh22
        refine AQ.of (AS.if_eq_t (tgt := 45) eX9_cornerAt_38 (by decide) ⟨by decide, by decide⟩ (by decide)) ?_
        have hc9 := hD.c (p := p) (k := k) (by omega) (by omega) (by omega) (by omega)
        obtain ⟨hc8, hc7⟩ := id hc9
        unfold am_c at hc8 hc7
        refine q_blk (lv2 := [(0, vr n), (1, vi p), (2, vi k)]) (st2 := [vi k, vi p, vr n, vi 100]) kX9_cornerAt_45 rfl ?_
        refine q_Vi (av := [vi p, vi k]) (st := [vi 100]) (c_X9_xOf Mh22 hD (by omega) (by omega) (by omega) (by omega)) lk_RX9_72 (by decide) rfl rfl Mh22.ob ⟨_, rfl, rfl⟩ (Nat.le_of_ble_eq_true rfl) eX9_cornerAt_50 (fun z23 e24 => ?_)
        subst e24
        refine q_blk (lv2 := [(0, vr n), (1, vi p), (2, vi k)]) (st2 := [vi k, vi p, vr n, vi (100 * (pX D p k))]) kX9_cornerAt_53 rfl ?_
        refine q_Vi (av := [vi p, vi k]) (st := [vi (100 * (pX D p k))]) (c_X9_yOf Mh22 hD (by omega) (by omega) (by omega) (by omega)) lk_RX9_75 (by decide) rfl rfl Mh22.ob ⟨_, rfl, rfl⟩ (Nat.le_of_ble_eq_true rfl) eX9_cornerAt_57 (fun z25 e26 => ?_)
        subst e26
        refine q_blk (lv2 := [(0, vr n), (1, vi p), (2, vi k)]) (st2 := [vi ((100 * (pX D p k)) + (pY D p k))]) kX9_cornerAt_60 rfl ?_
        exact q_ri rfl eX9_cornerAt_61 ⟨((100 * (pX D p k)) + (pY D p k)), rfl, 0, .inl ((100 * (pX D p k)) + (pY D p k)), Or.inr ⟨⟨by omega, by omega⟩, Or.inr ⟨⟨by omega, by omega⟩, rfl⟩⟩, Or.inl ⟨_, rfl, rfl, rfl⟩, ⟨_, _, _, _, _, _, _, _, _, _, _, _, _, Mh22, Rh22, Kh22⟩, Vh22⟩

set_option maxHeartbeats 1000000 in
theorem c_X9_score {w : am_w} {h : AH} {n : Nat} {th bl eo ud : Int} {bf : Int → Int} {rw : Int → Int → Int} {D : Int → Int} (hA : MA h n th bl eo ud bf rw D) (hD : VD D) {cm : Int → Int} (hM : CMS D cm) {L : GL} (hC : CO D L) {p : Int} (r_p : am_r p)  : AE w m_X9_score 10 [vr n, vi p] h (am_int (fun z h1 => ∃ th' r, (gA_p D p (gA_c D p (gA_z (fun z => z = gm_msc D cm L p)))) r ∧ gm_an (fun k => if k = 2 then 1 else 2) r th' z ∧ MA h1 n th' bl eo ud bf rw D ∧ am_fr h h1 n (n + 14))) := by
  refine AE.of wf_X9_score (Nat.le_of_ble_eq_true rfl) (am_ok_i) ?_
  obtain ⟨tl, ps, er, ea, g0, g1, g2, g3, ns, ne, se, od, sk, hm, hR, hK⟩ := hA
  obtain ⟨m0, m1⟩ := id hm
  have d0 := hD.1
  have d1 := hD.2.1
  have d2 := hD.2.2.1
  have d3 := hD.2.2.2.1
  refine q_blk (lv2 := [(0, vr n), (1, vi p)]) (st2 := [vi 0, vr n]) kX9_score_0 rfl ?_
  refine q_pi eX9_score_2 fl_RX9_32 (fun q hq => by cases hq; exact Or.inl rfl) (Or.inl rfl) m0 (Nat.le_of_ble_eq_true rfl) (l2 := [0, 0, bl, tl, ps, er, ea, eo, 0, 0, 0, ud, g0, g1, g2, g3, ns, ne, se, 0]) rfl (fun h1 e2 => ?_)
  have k3 := am_at e2
  have k4 := (am_ne e2 (n + 2) (by omega)).trans m1
  have k5 := (am_ne e2 (n + 13) (by omega)).trans hK
  have M5 : MM h1 n 0 bl tl ps er ea eo ud g0 g1 g2 g3 ns ne se D := ⟨k3, k4⟩
  have F5 : am_fr h h1 n (n + 1) := am_fr.st e2 (by omega) (by omega)
  have Vh1 : am_fr h h1 n (n + 14) := am_fr.mo F5 (by omega) (by omega)
  have Rh1 := hR.kept F5 (by omega)
  have Kh1 := (F5.2 (n + 13) (by omega)).trans hK
  obtain ⟨m0h1, m1h1⟩ := id M5
  refine q_blk (lv2 := [(0, vr n), (1, vi p)]) (st2 := [vi p, vr n]) kX9_score_5 rfl ?_
  refine AQ.callVi (av := [vi p]) (st := []) (c_X9_noClosed M5 hD (by first | assumption | exact ⟨by omega, by omega⟩)) lk_RX9_309 (by decide) rfl rfl M5.ob ⟨_, rfl, rfl⟩ (Nat.le_of_ble_eq_true rfl) eX9_score_7 (fun z6 h8 e7 => ?_)
  rcases e7 with ⟨Bh8, ⟨thh8, ⟨rfl, rfl⟩ | ⟨rfl, rfl, Th8⟩ | ⟨rfl, rfl, Th8⟩, Mh8⟩, Fh8⟩
  · skip
    have Ch8 := am_b0 Bh8
    have Vh8 : am_fr h h8 n (n + 14) := am_fr.tr Vh1 (am_fr.mo Fh8 (by omega) (by omega))
    have Rh8 := Rh1.kept Fh8 (by omega)
    have Kh8 := (Fh8.2 (n + 13) (by omega)).trans Kh1
    obtain ⟨m0h8, m1h8⟩ := id Mh8
    refine AQ.of (AS.if_eq_t (tgt := 17) eX9_score_10 (by decide) ⟨by decide, by decide⟩ (by decide)) ?_
    refine q_blk (lv2 := [(0, vr n), (1, vi p)]) (st2 := [vi p, vr n]) kX9_score_17 rfl ?_
    refine AQ.callVi (av := [vi p]) (st := []) (c_X9_scoreOf Mh8 hD (p := p) (by omega) (by omega) hM Kh8 hC) lk_RX9_297 (by decide) rfl rfl Mh8.ob ⟨_, rfl, rfl⟩ (Nat.le_of_ble_eq_true rfl) eX9_score_19 (fun z9 h11 e10 => ?_)
    obtain ⟨Zh11, yh11, xh11, ⟨sh11, kh11⟩, Fh11⟩ := e10
    have Mh11 := Mh8.keep13 Fh11
    have Vh11 : am_fr h h11 n (n + 14) := am_fr.tr Vh8 (am_fr.mo Fh11 (by omega) (by omega))
    have Rh11 := Rh8.kept Fh11 (by omega)
    obtain ⟨m0h11, m1h11⟩ := id Mh11
    exact q_ri rfl eX9_score_22 ⟨z9, rfl, 0, .inl z9, Or.inr ⟨⟨by omega, by omega⟩, Or.inr ⟨by omega, _, Zh11, rfl⟩⟩, Or.inl ⟨_, rfl, rfl, rfl⟩, ⟨_, _, _, _, _, _, _, _, _, _, _, _, _, Mh11, Rh11, kh11⟩, Vh11⟩
  · skip
    have Vh8 : am_fr h h8 n (n + 14) := am_fr.tr Vh1 (am_fr.mo Fh8 (by omega) (by omega))
    have Rh8 := Rh1.kept Fh8 (by omega)
    have Kh8 := (Fh8.2 (n + 13) (by omega)).trans Kh1
    obtain ⟨m0h8, m1h8⟩ := id Mh8
    refine AQ.of (AS.if_eq_f eX9_score_10 ⟨by decide, by decide⟩ (by decide) (by decide)) ?_
    refine q_blk (lv2 := [(0, vr n), (1, vi p)]) (st2 := [vi 0]) kX9_score_13 rfl ?_
    refine q_goto (tgt := 22) eX9_score_14 (by decide) ?_
    exact q_ri rfl eX9_score_22 ⟨0, rfl, 1, .inr 2, Or.inl ⟨by omega, rfl⟩, Or.inr ⟨_, rfl, rfl⟩, ⟨_, _, _, _, _, _, _, _, _, _, _, _, _, Mh8, Rh8, Kh8⟩, Vh8⟩
  · skip
    have Vh8 : am_fr h h8 n (n + 14) := am_fr.tr Vh1 (am_fr.mo Fh8 (by omega) (by omega))
    have Rh8 := Rh1.kept Fh8 (by omega)
    have Kh8 := (Fh8.2 (n + 13) (by omega)).trans Kh1
    obtain ⟨m0h8, m1h8⟩ := id Mh8
    refine AQ.of (AS.if_eq_f eX9_score_10 ⟨by decide, by decide⟩ (by decide) (by decide)) ?_
    refine q_blk (lv2 := [(0, vr n), (1, vi p)]) (st2 := [vi 0]) kX9_score_13 rfl ?_
    refine q_goto (tgt := 22) eX9_score_14 (by decide) ?_
    exact q_ri rfl eX9_score_22 ⟨0, rfl, 2, .inr 3, Or.inr ⟨⟨by omega, by omega⟩, Or.inl ⟨by omega, rfl⟩⟩, Or.inr ⟨_, rfl, rfl⟩, ⟨_, _, _, _, _, _, _, _, _, _, _, _, _, Mh8, Rh8, Kh8⟩, Vh8⟩

set_option maxHeartbeats 1000000 in
theorem c_X9_points {w : am_w} {h : AH} {n : Nat} {th bl eo ud : Int} {bf : Int → Int} {rw : Int → Int → Int} {D : Int → Int} (hA : MA h n th bl eo ud bf rw D) (hD : VD D) {cm : Int → Int} (hM : CMS D cm) {L : GL} (hC : CO D L) {pl : Int} (r_pl : am_r pl)  : AE w m_X9_points 11 [vr n, vi pl] h (am_int (fun z h1 => ∃ th' r, (gA_pl pl (gA_z (fun z => z = gm_mpt D cm L pl))) r ∧ gm_an (fun _ => 1) r th' z ∧ MA h1 n th' bl eo ud bf rw D ∧ am_fr h h1 n (n + 14))) := by
  refine AE.of wf_X9_points (Nat.le_of_ble_eq_true rfl) (am_ok_i) ?_
  obtain ⟨tl, ps, er, ea, g0, g1, g2, g3, ns, ne, se, od, sk, hm, hR, hK⟩ := hA
  obtain ⟨m0, m1⟩ := id hm
  have d0 := hD.1
  have d1 := hD.2.1
  have d2 := hD.2.2.1
  have d3 := hD.2.2.2.1
  refine q_blk (lv2 := [(0, vr n), (1, vi pl)]) (st2 := [vi 0, vr n]) kX9_points_0 rfl ?_
  refine q_pi eX9_points_2 fl_RX9_32 (fun q hq => by cases hq; exact Or.inl rfl) (Or.inl rfl) m0 (Nat.le_of_ble_eq_true rfl) (l2 := [0, 0, bl, tl, ps, er, ea, eo, 0, 0, 0, ud, g0, g1, g2, g3, ns, ne, se, 0]) rfl (fun h1 e2 => ?_)
  have k3 := am_at e2
  have k4 := (am_ne e2 (n + 2) (by omega)).trans m1
  have k5 := (am_ne e2 (n + 13) (by omega)).trans hK
  have M5 : MM h1 n 0 bl tl ps er ea eo ud g0 g1 g2 g3 ns ne se D := ⟨k3, k4⟩
  have F5 : am_fr h h1 n (n + 1) := am_fr.st e2 (by omega) (by omega)
  have Vh1 : am_fr h h1 n (n + 14) := am_fr.mo F5 (by omega) (by omega)
  have Rh1 := hR.kept F5 (by omega)
  have Kh1 := (F5.2 (n + 13) (by omega)).trans hK
  obtain ⟨m0h1, m1h1⟩ := id M5
  refine q_blk (lv2 := [(0, vr n), (1, vi pl)]) (st2 := [vi 3, vi 0, vi pl, vr n]) kX9_points_5 rfl ?_
  refine q_Si (av := [vi pl, vi 0, vi 3]) (st := [vr n]) (c_X9_in (by first | assumption | exact ⟨by omega, by omega⟩) (by first | assumption | exact ⟨by omega, by omega⟩) (by first | assumption | exact ⟨by omega, by omega⟩)) lk_RX9_57 (by decide) rfl rfl (Nat.le_of_ble_eq_true rfl) eX9_points_9 (fun z6 e7 => ?_)
  rcases e7 with ⟨rfl, e7⟩ | ⟨rfl, e7⟩
  · skip
    refine AQ.of (AS.if_ne_t (tgt := 19) eX9_points_12 (by decide) ⟨by decide, by decide⟩ (by decide)) ?_
    refine q_blk (lv2 := [(0, vr n), (1, vi pl)]) (st2 := [vi 0, vr n]) kX9_points_19 rfl ?_
    refine q_blk (lv2 := [(0, vr n), (1, vi pl)]) (st2 := [vi 1, vi 0, vr n]) kX9_points_20 rfl ?_
    refine AQ.callVi (av := [vi 0, vi 1]) (st := []) (c_X9_fails M5 (c := 0) (e := 1) (by decide) (by omega)) lk_RX9_241 (by decide) rfl rfl M5.ob ⟨_, rfl, rfl⟩ (Nat.le_of_ble_eq_true rfl) eX9_points_21 (fun z8 h10 e9 => ?_)
    rcases e9 with ⟨⟨rfl, Bh10⟩ | ⟨rfl, Bh10⟩, ⟨thh10, Th10, Mh10⟩, Fh10⟩
    · skip
      obtain rfl := Th10.t
      have Vh10 : am_fr h h10 n (n + 14) := am_fr.tr Vh1 (am_fr.mo Fh10 (by omega) (by omega))
      have Rh10 := Rh1.kept Fh10 (by omega)
      have Kh10 := (Fh10.2 (n + 13) (by omega)).trans Kh1
      obtain ⟨m0h10, m1h10⟩ := id Mh10
      refine AQ.of (AS.if_eq_f eX9_points_24 ⟨by decide, by decide⟩ (by decide) (by decide)) ?_
      refine q_blk (lv2 := [(0, vr n), (1, vi pl)]) (st2 := [vi 0]) kX9_points_27 rfl ?_
      refine q_goto (tgt := 36) eX9_points_28 (by decide) ?_
      exact q_ri rfl eX9_points_36 ⟨0, rfl, 1, .inr 0, Or.inl ⟨by omega, rfl⟩, Or.inr ⟨_, rfl, rfl⟩, ⟨_, _, _, _, _, _, _, _, _, _, _, _, _, Mh10, Rh10, Kh10⟩, Vh10⟩
    · skip
      obtain rfl := Th10.f
      have Vh10 : am_fr h h10 n (n + 14) := am_fr.tr Vh1 (am_fr.mo Fh10 (by omega) (by omega))
      have Rh10 := Rh1.kept Fh10 (by omega)
      have Kh10 := (Fh10.2 (n + 13) (by omega)).trans Kh1
      obtain ⟨m0h10, m1h10⟩ := id Mh10
      refine AQ.of (AS.if_eq_t (tgt := 31) eX9_points_24 (by decide) ⟨by decide, by decide⟩ (by decide)) ?_
      refine q_blk (lv2 := [(0, vr n), (1, vi pl)]) (st2 := [vi pl, vr n]) kX9_points_31 rfl ?_
      refine AQ.callVi (av := [vi pl]) (st := []) (c_X9_pointsOf Mh10 hD (pl := pl) (by first | assumption | exact ⟨by omega, by omega⟩) hM Kh10 hC) lk_RX9_312 (by decide) rfl rfl Mh10.ob ⟨_, rfl, rfl⟩ (Nat.le_of_ble_eq_true rfl) eX9_points_33 (fun z11 h13 e12 => ?_)
      obtain ⟨Zh13, yh13, xh13, ⟨sh13, kh13⟩, Fh13⟩ := e12
      have Mh13 := Mh10.keep13 Fh13
      have Vh13 : am_fr h h13 n (n + 14) := am_fr.tr Vh10 (am_fr.mo Fh13 (by omega) (by omega))
      have Rh13 := Rh10.kept Fh13 (by omega)
      obtain ⟨m0h13, m1h13⟩ := id Mh13
      exact q_ri rfl eX9_points_36 ⟨z11, rfl, 0, .inl z11, Or.inr ⟨⟨by omega, by omega⟩, _, Zh13, rfl⟩, Or.inl ⟨_, rfl, rfl, rfl⟩, ⟨_, _, _, _, _, _, _, _, _, _, _, _, _, Mh13, Rh13, kh13⟩, Vh13⟩
  · skip
    refine AQ.of (AS.if_ne_f eX9_points_12 ⟨by decide, by decide⟩ (by decide) (by decide)) ?_
    refine q_blk (lv2 := [(0, vr n), (1, vi pl)]) (st2 := [vi 1, vr n]) kX9_points_15 rfl ?_
    refine q_goto (tgt := 20) eX9_points_16 (by decide) ?_
    refine q_blk (lv2 := [(0, vr n), (1, vi pl)]) (st2 := [vi 1, vi 1, vr n]) kX9_points_20 rfl ?_
    refine AQ.callVi (av := [vi 1, vi 1]) (st := []) (c_X9_fails M5 (c := 1) (e := 1) (by decide) (by omega)) lk_RX9_241 (by decide) rfl rfl M5.ob ⟨_, rfl, rfl⟩ (Nat.le_of_ble_eq_true rfl) eX9_points_21 (fun z14 h16 e15 => ?_)
    rcases e15 with ⟨⟨rfl, Bh16⟩ | ⟨rfl, Bh16⟩, ⟨thh16, Th16, Mh16⟩, Fh16⟩
    · skip
      obtain rfl := Th16.t
      have Vh16 : am_fr h h16 n (n + 14) := am_fr.tr Vh1 (am_fr.mo Fh16 (by omega) (by omega))
      have Rh16 := Rh1.kept Fh16 (by omega)
      have Kh16 := (Fh16.2 (n + 13) (by omega)).trans Kh1
      obtain ⟨m0h16, m1h16⟩ := id Mh16
      refine AQ.of (AS.if_eq_f eX9_points_24 ⟨by decide, by decide⟩ (by decide) (by decide)) ?_
      refine q_blk (lv2 := [(0, vr n), (1, vi pl)]) (st2 := [vi 0]) kX9_points_27 rfl ?_
      refine q_goto (tgt := 36) eX9_points_28 (by decide) ?_
      exact q_ri rfl eX9_points_36 ⟨0, rfl, 1, .inr 0, Or.inl ⟨by omega, rfl⟩, Or.inr ⟨_, rfl, rfl⟩, ⟨_, _, _, _, _, _, _, _, _, _, _, _, _, Mh16, Rh16, Kh16⟩, Vh16⟩
    · skip
      obtain rfl := Th16.f
      have Vh16 : am_fr h h16 n (n + 14) := am_fr.tr Vh1 (am_fr.mo Fh16 (by omega) (by omega))
      have Rh16 := Rh1.kept Fh16 (by omega)
      have Kh16 := (Fh16.2 (n + 13) (by omega)).trans Kh1
      obtain ⟨m0h16, m1h16⟩ := id Mh16
      refine AQ.of (AS.if_eq_t (tgt := 31) eX9_points_24 (by decide) ⟨by decide, by decide⟩ (by decide)) ?_
      refine q_blk (lv2 := [(0, vr n), (1, vi pl)]) (st2 := [vi pl, vr n]) kX9_points_31 rfl ?_
      refine AQ.callVi (av := [vi pl]) (st := []) (c_X9_pointsOf Mh16 hD (pl := pl) (by first | assumption | exact ⟨by omega, by omega⟩) hM Kh16 hC) lk_RX9_312 (by decide) rfl rfl Mh16.ob ⟨_, rfl, rfl⟩ (Nat.le_of_ble_eq_true rfl) eX9_points_33 (fun z17 h19 e18 => ?_)
      obtain ⟨Zh19, yh19, xh19, ⟨sh19, kh19⟩, Fh19⟩ := e18
      have Mh19 := Mh16.keep13 Fh19
      have Vh19 : am_fr h h19 n (n + 14) := am_fr.tr Vh16 (am_fr.mo Fh19 (by omega) (by omega))
      have Rh19 := Rh16.kept Fh19 (by omega)
      obtain ⟨m0h19, m1h19⟩ := id Mh19
      exact q_ri rfl eX9_points_36 ⟨z17, rfl, 0, .inl z17, Or.inr ⟨⟨by omega, by omega⟩, _, Zh19, rfl⟩, Or.inl ⟨_, rfl, rfl, rfl⟩, ⟨_, _, _, _, _, _, _, _, _, _, _, _, _, Mh19, Rh19, kh19⟩, Vh19⟩

theorem gm_bst_t {f : Int → Int} {b m pl z : Int} (h1 : 1 ≤ pl) (h : (b, m) = gm_bst f (pl - 1).toNat) (hz : z = f pl) (hl : m < z) : (pl, z) = gm_bst f (pl + 1 - 1).toNat := by
  obtain ⟨k, hk⟩ := Int.eq_ofNat_of_zero_le (show 0 ≤ pl - 1 by omega)
  have hk : pl = (k : Int) + 1 := by omega
  subst hk
  rw [show ((k : Int) + 1 + 1 - 1).toNat = k + 1 by omega]
  rw [show ((k : Int) + 1 - 1).toNat = k by omega] at h
  show _ = (if (gm_bst f k).2 < f ((k : Int) + 1) then (((k : Int) + 1), f ((k : Int) + 1)) else gm_bst f k)
  rw [← h, if_pos (by show m < _; omega), hz]
theorem gm_bst_f {f : Int → Int} {b m pl z : Int} (h1 : 1 ≤ pl) (h : (b, m) = gm_bst f (pl - 1).toNat) (hz : z = f pl) (hl : ¬ m < z) : (b, m) = gm_bst f (pl + 1 - 1).toNat := by
  obtain ⟨k, hk⟩ := Int.eq_ofNat_of_zero_le (show 0 ≤ pl - 1 by omega)
  have hk : pl = (k : Int) + 1 := by omega
  subst hk
  rw [show ((k : Int) + 1 + 1 - 1).toNat = k + 1 by omega]
  rw [show ((k : Int) + 1 - 1).toNat = k by omega] at h
  show _ = (if (gm_bst f k).2 < f ((k : Int) + 1) then (((k : Int) + 1), f ((k : Int) + 1)) else gm_bst f k)
  rw [← h, if_neg (by show ¬ m < _; omega)]
theorem gm_mpt_r {D : Int → Int} (hD : VD D) (cm : Int → Int) (L : GL) (pl : Int) : -600000 ≤ gm_mpt D cm L pl ∧ gm_mpt D cm L pl ≤ 600000 := by
  have h3 := hD.2.2.2.1
  have h := gm_sm_le (f := gm_mpp D cm L pl) (B := 99999) (m := (D 3).toNat) (fun k _ _ => by
    unfold gm_mpp
    split
    · exact gm_msc_r D cm L k
    · omega)
  exact ⟨by have := h.1; unfold gm_mpt; omega, by have := h.2; unfold gm_mpt; omega⟩

set_option maxHeartbeats 4000000 in
theorem c_X9_leader {w : am_w} {h : AH} {n : Nat} {th bl eo ud : Int} {bf : Int → Int} {rw : Int → Int → Int} {D : Int → Int} (hA : MA h n th bl eo ud bf rw D) (hD : VD D) {cm : Int → Int} (hM : CMS D cm) {L : GL} (hC : CO D L)  : AE w m_X9_leader 11 [vr n] h (am_int (fun z h1 => z = (gm_bst (gm_mpt D cm L) 3).1 ∧ MA h1 n 0 bl eo ud bf rw D ∧ am_fr h h1 n (n + 14))) := by
  refine AE.of wf_X9_leader (Nat.le_of_ble_eq_true rfl) (am_ok_i) ?_
  obtain ⟨tl, ps, er, ea, g0, g1, g2, g3, ns, ne, se, od, sk, hm, hR, hK⟩ := hA
  obtain ⟨m0, m1⟩ := id hm
  have d0 := hD.1
  have d1 := hD.2.1
  have d2 := hD.2.2.1
  have d3 := hD.2.2.2.1
  refine q_blk (lv2 := [(0, vr n)]) (st2 := [vi 0, vr n]) kX9_leader_0 rfl ?_
  refine q_pi eX9_leader_2 fl_RX9_32 (fun q hq => by cases hq; exact Or.inl rfl) (Or.inl rfl) m0 (Nat.le_of_ble_eq_true rfl) (l2 := [0, 0, bl, tl, ps, er, ea, eo, 0, 0, 0, ud, g0, g1, g2, g3, ns, ne, se, 0]) rfl (fun h1 e2 => ?_)
  have k3 := am_at e2
  have k4 := (am_ne e2 (n + 2) (by omega)).trans m1
  have k5 := (am_ne e2 (n + 13) (by omega)).trans hK
  have M5 : MM h1 n 0 bl tl ps er ea eo ud g0 g1 g2 g3 ns ne se D := ⟨k3, k4⟩
  have F5 : am_fr h h1 n (n + 1) := am_fr.st e2 (by omega) (by omega)
  have Vh1 : am_fr h h1 n (n + 14) := am_fr.mo F5 (by omega) (by omega)
  have Rh1 := hR.kept F5 (by omega)
  have Kh1 := (F5.2 (n + 13) (by omega)).trans hK
  obtain ⟨m0h1, m1h1⟩ := id M5
  refine q_blk (lv2 := [(0, vr n), (1, vi 0)]) (st2 := [vi 0, vr n]) kX9_leader_5 rfl ?_
  refine AQ.callVi (av := [vi 0]) (st := []) (c_X9_pointsOf M5 hD (pl := 0) (by first | assumption | exact ⟨by omega, by omega⟩) hM Kh1 hC) lk_RX9_312 (by decide) rfl rfl M5.ob ⟨_, rfl, rfl⟩ (Nat.le_of_ble_eq_true rfl) eX9_leader_9 (fun z6 h8 e7 => ?_)
  obtain ⟨Zh8, yh8, xh8, ⟨sh8, kh8⟩, Fh8⟩ := e7
  have Mh8 := M5.keep13 Fh8
  have Vh8 : am_fr h h8 n (n + 14) := am_fr.tr Vh1 (am_fr.mo Fh8 (by omega) (by omega))
  have Rh8 := Rh1.kept Fh8 (by omega)
  obtain ⟨m0h8, m1h8⟩ := id Mh8
  refine q_blk (lv2 := [(0, vr n), (1, vi 0), (2, vi z6), (3, vi 1)]) (st2 := []) kX9_leader_12 rfl ?_
  refine am_lp5 (I := fun (bs : Int) (ms : Int) (pl : Int) (hh : AH) (s9 : Int → Int) => (1 ≤ pl ∧ pl ≤ 4) ∧ MM hh n 0 bl tl ps er ea eo ud g0 g1 g2 g3 ns ne se D ∧ MRX hh n bf od rw ∧ hh.1 (n + 13) = some (102, 1300, s9, am_N) ∧ am_fr h hh n (n + 14) ∧ (bs, ms) = gm_bst (gm_mpt D cm L) (pl - 1).toNat ∧ (-600000 ≤ ms ∧ ms ≤ 600000)) (μ := fun (bs : Int) (ms : Int) (pl : Int) (hh : AH) (s9 : Int → Int) => (4 - pl).toNat) (G := fun (bs : Int) (ms : Int) (pl : Int) (hh : AH) (s9 : Int → Int) => AQ w m_X9_leader 11 15 [(0, vr n), (1, vi bs), (2, vi ms), (3, vi pl)] [] hh (am_int (fun z h1 => z = (gm_bst (gm_mpt D cm L) 3).1 ∧ MA h1 n 0 bl eo ud bf rw D ∧ am_fr h h1 n (n + 14)))) ?_ 0 z6 1 h8 sh8 (⟨⟨by omega, by omega⟩, Mh8, Rh8, kh8, Vh8, by rw [Zh8]; rfl, by have := gm_mpt_r hD cm L 0; omega⟩)
  intro bs ms pl hh s9 hI10 ih9
  obtain ⟨⟨p0, p1⟩, hm9, hR9, hk9, hf9, hb, hr⟩ := hI10
  obtain ⟨m0', m1'⟩ := id hm9
  refine q_blk (lv2 := [(0, vr n), (1, vi bs), (2, vi ms), (3, vi pl)]) (st2 := [vi 4, vi pl]) kX9_leader_15 rfl ?_
  refine AQ.ic_ge (tgt := 47) eX9_leader_17 (by decide) (by first | assumption | exact ⟨by omega, by omega⟩) ⟨by decide, by decide⟩ (fun br11 => ?_) (fun br11 => ?_)
  · skip
    refine q_blk (lv2 := [(0, vr n), (1, vi bs), (2, vi ms), (3, vi pl)]) (st2 := [vi bs]) kX9_leader_47 rfl ?_
    exact q_ri rfl eX9_leader_48 ⟨bs, rfl, by have q := hb; rw [show (pl - 1).toNat = 3 by omega] at q; rw [← q], ⟨_, _, _, _, _, _, _, _, _, _, _, _, _, hm9, hR9, hk9⟩, hf9⟩
  · skip
    refine q_blk (lv2 := [(0, vr n), (1, vi bs), (2, vi ms), (3, vi pl)]) (st2 := [vi pl, vr n]) kX9_leader_20 rfl ?_
    refine AQ.callVi (av := [vi pl]) (st := []) (c_X9_pointsOf hm9 hD (pl := pl) (by first | assumption | exact ⟨by omega, by omega⟩) hM hk9 hC) lk_RX9_312 (by decide) rfl rfl hm9.ob ⟨_, rfl, rfl⟩ (Nat.le_of_ble_eq_true rfl) eX9_leader_22 (fun z12 h14 e13 => ?_)
    obtain ⟨Zh14, yh14, xh14, ⟨sh14, kh14⟩, Fh14⟩ := e13
    have Mh14 := hm9.keep13 Fh14
    have Vh14 : am_fr h h14 n (n + 14) := am_fr.tr hf9 (am_fr.mo Fh14 (by omega) (by omega))
    have Rh14 := hR9.kept Fh14 (by omega)
    obtain ⟨m0h14, m1h14⟩ := id Mh14
    refine q_blk (lv2 := [(0, vr n), (1, vi bs), (2, vi ms), (3, vi pl), (4, vi z12)]) (st2 := [vi ms, vi z12]) kX9_leader_25 rfl ?_
    refine AQ.ic_gt (tgt := 36) eX9_leader_30 (by decide) (by first | assumption | exact ⟨by omega, by omega⟩) (by first | assumption | exact ⟨by omega, by omega⟩) (fun br15 => ?_) (fun br15 => ?_)
    · skip
      refine q_blk (lv2 := [(0, vr n), (1, vi pl), (2, vi z12), (3, vi pl), (4, vi z12)]) (st2 := []) kX9_leader_36 rfl ?_
      refine q_blk (lv2 := [(0, vr n), (1, vi pl), (2, vi z12), (3, vi (pl + 1)), (4, vi z12)]) (st2 := []) kX9_leader_41 rfl ?_
      refine q_goto (tgt := 15) eX9_leader_44 (by decide) ?_
      refine q_sub (lv2 := [(0, vr n), (1, vi pl), (2, vi z12), (3, vi (pl + 1))]) [0, 1, 2, 3] rfl ?_
      exact ih9 pl z12 (pl + 1) h14 sh14 (⟨⟨by omega, by omega⟩, Mh14, Rh14, kh14, Vh14, by first | exact gm_bst_t p0 hb Zh14 (by omega) | exact gm_bst_f p0 hb Zh14 (by omega), by have := gm_mpt_r hD cm L pl; omega⟩) (by omega)
    · skip
      refine q_goto (tgt := 41) eX9_leader_33 (by decide) ?_
      refine q_blk (lv2 := [(0, vr n), (1, vi bs), (2, vi ms), (3, vi (pl + 1)), (4, vi z12)]) (st2 := []) kX9_leader_41 rfl ?_
      refine q_goto (tgt := 15) eX9_leader_44 (by decide) ?_
      refine q_sub (lv2 := [(0, vr n), (1, vi bs), (2, vi ms), (3, vi (pl + 1))]) [0, 1, 2, 3] rfl ?_
      exact ih9 bs ms (pl + 1) h14 sh14 (⟨⟨by omega, by omega⟩, Mh14, Rh14, kh14, Vh14, by first | exact gm_bst_t p0 hb Zh14 (by omega) | exact gm_bst_f p0 hb Zh14 (by omega), by have := gm_mpt_r hD cm L pl; omega⟩) (by omega)

set_option maxHeartbeats 8000000 in
theorem c_X9_checksum {w : am_w} {h : AH} {n : Nat} {th bl eo ud : Int} {bf : Int → Int} {rw : Int → Int → Int} {D : Int → Int} (hA : MA h n th bl eo ud bf rw D) (hD : VD D) {cm : Int → Int} (hM : CMS D cm) {L : GL} (hC : CO D L)  : AE w m_X9_checksum 11 [vr n] h (am_lng (fun z h1 => z = gm_k3 (gm_mpt D cm L) 4 (gm_k3 cm (D 2).toNat (gm_k1 D (D 3).toNat)) ∧ MA h1 n 0 bl eo ud bf rw D ∧ am_fr h h1 n (n + 14))) := by
  refine AE.of wf_X9_checksum (Nat.le_of_ble_eq_true rfl) (am_ok_l) ?_
  obtain ⟨tl, ps, er, ea, g0, g1, g2, g3, ns, ne, se, od, sk, hm, hR, hK⟩ := hA
  obtain ⟨m0, m1⟩ := id hm
  have d0 := hD.1
  have d1 := hD.2.1
  have d2 := hD.2.2.1
  have d3 := hD.2.2.2.1
  refine q_blk (lv2 := [(0, vr n)]) (st2 := [vi 0, vr n]) kX9_checksum_0 rfl ?_
  refine q_pi eX9_checksum_2 fl_RX9_32 (fun q hq => by cases hq; exact Or.inl rfl) (Or.inl rfl) m0 (Nat.le_of_ble_eq_true rfl) (l2 := [0, 0, bl, tl, ps, er, ea, eo, 0, 0, 0, ud, g0, g1, g2, g3, ns, ne, se, 0]) rfl (fun h1 e2 => ?_)
  have k3 := am_at e2
  have k4 := (am_ne e2 (n + 2) (by omega)).trans m1
  have k5 := (am_ne e2 (n + 13) (by omega)).trans hK
  have M5 : MM h1 n 0 bl tl ps er ea eo ud g0 g1 g2 g3 ns ne se D := ⟨k3, k4⟩
  have F5 : am_fr h h1 n (n + 1) := am_fr.st e2 (by omega) (by omega)
  have Vh1 : am_fr h h1 n (n + 14) := am_fr.mo F5 (by omega) (by omega)
  have Rh1 := hR.kept F5 (by omega)
  have Kh1 := (F5.2 (n + 13) (by omega)).trans hK
  obtain ⟨m0h1, m1h1⟩ := id M5
  refine q_blk (lv2 := [(0, vr n), (1, vl 0), (3, vi 0)]) (st2 := []) kX9_checksum_5 rfl ?_
  refine am_lp2 (I := fun (v : Int) (p : Int) => (0 ≤ p ∧ p ≤ D 3) ∧ v = gm_k1 D p.toNat) (μ := fun (v : Int) (p : Int) => (D 3 - p).toNat) (G := fun (v : Int) (p : Int) => AQ w m_X9_checksum 11 9 [(0, vr n), (1, vl v), (3, vi p)] [] h1 (am_lng (fun z h1 => z = gm_k3 (gm_mpt D cm L) 4 (gm_k3 cm (D 2).toNat (gm_k1 D (D 3).toNat)) ∧ MA h1 n 0 bl eo ud bf rw D ∧ am_fr h h1 n (n + 14)))) ?_ 0 0 (⟨⟨by omega, by omega⟩, rfl⟩)
  intro v p hI7 ih6
  obtain ⟨⟨p0, p1⟩, hv1⟩ := hI7
  refine q_blk (lv2 := [(0, vr n), (1, vl v), (3, vi p)]) (st2 := [vr n, vi p]) kX9_checksum_9 rfl ?_
  refine q_gr eX9_checksum_11 fl_RX9_17 (Or.inr ⟨_, rfl⟩) m0h1 rfl ?_
  refine q_blk (lv2 := [(0, vr n), (1, vl v), (3, vi p)]) (st2 := [vi 3, vr (n + 2), vi p]) kX9_checksum_14 rfl ?_
  refine q_ia eX9_checksum_15 m1h1 (by decide) (by omega) (by omega) (z := (D 3)) rfl ?_
  refine AQ.ic_ge (tgt := 105) eX9_checksum_16 (by decide) (by first | assumption | exact ⟨by omega, by omega⟩) (by first | assumption | exact ⟨by omega, by omega⟩) (fun br8 => ?_) (fun br8 => ?_)
  · skip
    refine q_blk (lv2 := [(0, vr n), (1, vl v), (3, vi 0)]) (st2 := []) kX9_checksum_105 rfl ?_
    refine am_lp2 (I := fun (v3 : Int) (j : Int) => (0 ≤ j ∧ j ≤ D 2) ∧ v3 = gm_k3 cm j.toNat (gm_k1 D (D 3).toNat)) (μ := fun (v3 : Int) (j : Int) => (D 2 - j).toNat) (G := fun (v3 : Int) (j : Int) => AQ w m_X9_checksum 11 107 [(0, vr n), (1, vl v3), (3, vi j)] [] h1 (am_lng (fun z h1 => z = gm_k3 (gm_mpt D cm L) 4 (gm_k3 cm (D 2).toNat (gm_k1 D (D 3).toNat)) ∧ MA h1 n 0 bl eo ud bf rw D ∧ am_fr h h1 n (n + 14)))) ?_ v 0 (⟨⟨by omega, by omega⟩, by rw [hv1, show p = D 3 by omega]; rfl⟩)
    intro v3 j hI10 ih9
    obtain ⟨⟨j0, j1⟩, hv3⟩ := hI10
    refine q_blk (lv2 := [(0, vr n), (1, vl v3), (3, vi j)]) (st2 := [vr n, vi j]) kX9_checksum_107 rfl ?_
    refine q_gr eX9_checksum_109 fl_RX9_17 (Or.inr ⟨_, rfl⟩) m0h1 rfl ?_
    refine q_blk (lv2 := [(0, vr n), (1, vl v3), (3, vi j)]) (st2 := [vi 2, vr (n + 2), vi j]) kX9_checksum_112 rfl ?_
    refine q_ia eX9_checksum_113 m1h1 (by decide) (by omega) (by omega) (z := (D 2)) rfl ?_
    refine AQ.ic_ge (tgt := 136) eX9_checksum_114 (by decide) (by first | assumption | exact ⟨by omega, by omega⟩) (by first | assumption | exact ⟨by omega, by omega⟩) (fun br11 => ?_) (fun br11 => ?_)
    · skip
      refine q_blk (lv2 := [(0, vr n), (1, vl v3), (3, vi 0)]) (st2 := []) kX9_checksum_136 rfl ?_
      refine am_lp4 (I := fun (v4 : Int) (pl : Int) (hh : AH) (s9 : Int → Int) => (0 ≤ pl ∧ pl ≤ 4) ∧ MM hh n 0 bl tl ps er ea eo ud g0 g1 g2 g3 ns ne se D ∧ MRX hh n bf od rw ∧ hh.1 (n + 13) = some (102, 1300, s9, am_N) ∧ am_fr h hh n (n + 14) ∧ v4 = gm_k3 (gm_mpt D cm L) pl.toNat (gm_k3 cm (D 2).toNat (gm_k1 D (D 3).toNat))) (μ := fun (v4 : Int) (pl : Int) (hh : AH) (s9 : Int → Int) => (4 - pl).toNat) (G := fun (v4 : Int) (pl : Int) (hh : AH) (s9 : Int → Int) => AQ w m_X9_checksum 11 138 [(0, vr n), (1, vl v4), (3, vi pl)] [] hh (am_lng (fun z h1 => z = gm_k3 (gm_mpt D cm L) 4 (gm_k3 cm (D 2).toNat (gm_k1 D (D 3).toNat)) ∧ MA h1 n 0 bl eo ud bf rw D ∧ am_fr h h1 n (n + 14)))) ?_ v3 0 h1 sk (⟨⟨by omega, by omega⟩, M5, Rh1, Kh1, Vh1, by rw [hv3, show j = D 2 by omega]; rfl⟩)
      intro v4 pl hh s9 hI13 ih12
      obtain ⟨⟨l0, l1⟩, hm9, hR9, hk9, hf9, hv4⟩ := hI13
      obtain ⟨m0', m1'⟩ := id hm9
      refine q_blk (lv2 := [(0, vr n), (1, vl v4), (3, vi pl)]) (st2 := [vi 4, vi pl]) kX9_checksum_138 rfl ?_
      refine AQ.ic_ge (tgt := 162) eX9_checksum_140 (by decide) (by first | assumption | exact ⟨by omega, by omega⟩) ⟨by decide, by decide⟩ (fun br14 => ?_) (fun br14 => ?_)
      · skip
        refine q_blk (lv2 := [(0, vr n), (1, vl v4), (3, vi pl)]) (st2 := [vl v4]) kX9_checksum_162 rfl ?_
        exact q_rl rfl eX9_checksum_163 ⟨v4, rfl, by rw [hv4, show pl = 4 by omega]; rfl, ⟨_, _, _, _, _, _, _, _, _, _, _, _, _, hm9, hR9, hk9⟩, hf9⟩
      · skip
        refine AQ.of (AS.ldc2 (z := 31) eX9_checksum_143 (am_gw 1607 (by decide +kernel) (by decide +kernel))) ?_
        refine q_blk (lv2 := [(0, vr n), (1, vl v4), (3, vi pl)]) (st2 := [vi pl, vr n, vl (31 * v4)]) kX9_checksum_146 rfl ?_
        refine AQ.callVi (av := [vi pl]) (st := [vl (31 * v4)]) (c_X9_pointsOf hm9 hD (pl := pl) (by first | assumption | exact ⟨by omega, by omega⟩) hM hk9 hC) lk_RX9_312 (by decide) rfl rfl hm9.ob ⟨_, rfl, rfl⟩ (Nat.le_of_ble_eq_true rfl) eX9_checksum_150 (fun z15 h17 e16 => ?_)
        obtain ⟨Zh17, yh17, xh17, ⟨sh17, kh17⟩, Fh17⟩ := e16
        have Mh17 := hm9.keep13 Fh17
        have Vh17 : am_fr h h17 n (n + 14) := am_fr.tr hf9 (am_fr.mo Fh17 (by omega) (by omega))
        have Rh17 := hR9.kept Fh17 (by omega)
        obtain ⟨m0h17, m1h17⟩ := id Mh17
        refine AQ.of (AS.i2l eX9_checksum_153 (by first | assumption | exact ⟨by omega, by omega⟩)) ?_
        refine q_blk (lv2 := [(0, vr n), (1, vl ((31 * v4) + z15)), (3, vi (pl + 1))]) (st2 := []) kX9_checksum_154 rfl ?_
        refine q_goto (tgt := 138) eX9_checksum_159 (by decide) ?_
        exact ih12 ((31 * v4) + z15) (pl + 1) h17 sh17 (⟨⟨by omega, by omega⟩, Mh17, Rh17, kh17, Vh17, by rw [gm_k3_s l0, ← hv4, ← Zh17]⟩) (by omega)
    · skip
      refine AQ.of (AS.ldc2 (z := 31) eX9_checksum_117 (am_gw 1607 (by decide +kernel) (by decide +kernel))) ?_
      refine q_blk (lv2 := [(0, vr n), (1, vl v3), (3, vi j)]) (st2 := [vi j, vr n, vl (31 * v3)]) kX9_checksum_120 rfl ?_
      refine q_Vi (av := [vi j]) (st := [vl (31 * v3)]) (c_X9_claimerOf M5 hD (by omega) (by omega)) lk_RX9_270 (by decide) rfl rfl M5.ob ⟨_, rfl, rfl⟩ (Nat.le_of_ble_eq_true rfl) eX9_checksum_124 (fun z18 e19 => ?_)
      have cr9 := e19.2
      have ck9 := gm_cmk hM (k := j) (by omega) (by omega) e19.1
      refine AQ.of (AS.i2l eX9_checksum_127 (by first | assumption | exact ⟨by omega, by omega⟩)) ?_
      refine q_blk (lv2 := [(0, vr n), (1, vl ((31 * v3) + z18)), (3, vi (j + 1))]) (st2 := []) kX9_checksum_128 rfl ?_
      refine q_goto (tgt := 107) eX9_checksum_133 (by decide) ?_
      exact ih9 ((31 * v3) + z18) (j + 1) (⟨⟨by omega, by omega⟩, by rw [gm_k3_s j0, ← hv3, ← ck9]⟩) (by omega)
  · skip
    refine AQ.of (AS.ldc2 (z := 31) eX9_checksum_19 (am_gw 1607 (by decide +kernel) (by decide +kernel))) ?_
    refine AQ.of (AS.ldc2 (z := 31) eX9_checksum_22 (am_gw 1607 (by decide +kernel) (by decide +kernel))) ?_
    have hp9 := hD.2.2.2.2.2 p p0 (by omega)
    refine q_blk (lv2 := [(0, vr n), (1, vl v), (3, vi p)]) (st2 := [vr n, vl (31 * v), vl 31]) kX9_checksum_25 rfl ?_
    refine q_gr eX9_checksum_28 fl_RX9_17 (Or.inr ⟨_, rfl⟩) m0h1 rfl ?_
    refine q_blk (lv2 := [(0, vr n), (1, vl v), (3, vi p)]) (st2 := [vi p, vr (n + 2), vl (31 * v), vl 31]) kX9_checksum_31 rfl ?_
    refine q_Si (av := [vi p]) (st := [vr (n + 2), vl (31 * v), vl 31]) c_X9_at lk_RX9_35 (by decide) rfl rfl (Nat.le_of_ble_eq_true rfl) eX9_checksum_32 (fun z20 e21 => ?_)
    subst e21
    refine q_ia eX9_checksum_35 m1h1 (by decide) (by omega) (by omega) (z := (pO D p)) rfl ?_
    refine AQ.of (AS.i2l eX9_checksum_36 (by first | assumption | exact ⟨by omega, by omega⟩)) ?_
    refine q_blk (lv2 := [(0, vr n), (1, vl v), (3, vi p)]) (st2 := [vr n, vl (31 * ((31 * v) + (pO D p)))]) kX9_checksum_37 rfl ?_
    refine q_gr eX9_checksum_40 fl_RX9_17 (Or.inr ⟨_, rfl⟩) m0h1 rfl ?_
    refine q_blk (lv2 := [(0, vr n), (1, vl v), (3, vi p)]) (st2 := [vi p, vr (n + 2), vl (31 * ((31 * v) + (pO D p)))]) kX9_checksum_43 rfl ?_
    refine q_Si (av := [vi p]) (st := [vr (n + 2), vl (31 * ((31 * v) + (pO D p)))]) c_X9_at lk_RX9_35 (by decide) rfl rfl (Nat.le_of_ble_eq_true rfl) eX9_checksum_44 (fun z22 e23 => ?_)
    subst e23
    refine q_blk (lv2 := [(0, vr n), (1, vl v), (3, vi p)]) (st2 := [vi ((66 + (27 * p)) + 2), vr (n + 2), vl (31 * ((31 * v) + (pO D p)))]) kX9_checksum_47 rfl ?_
    refine q_ia eX9_checksum_49 m1h1 (by decide) (by omega) (by omega) (z := (pC D p)) (congrArg D (by omega)) ?_
    refine AQ.of (AS.i2l eX9_checksum_50 (by first | assumption | exact ⟨by omega, by omega⟩)) ?_
    refine q_blk (lv2 := [(0, vr n), (1, vl ((31 * ((31 * v) + (pO D p))) + (pC D p))), (3, vi p), (4, vi 0)]) (st2 := []) kX9_checksum_51 rfl ?_
    refine am_lp2 (I := fun (v2 : Int) (k : Int) => (0 ≤ k ∧ k ≤ pN D p) ∧ v2 = gm_k2 D p k.toNat (31 * (31 * v + pO D p) + pC D p)) (μ := fun (v2 : Int) (k : Int) => (pN D p - k).toNat) (G := fun (v2 : Int) (k : Int) => AQ w m_X9_checksum 11 56 [(0, vr n), (1, vl v2), (3, vi p), (4, vi k)] [] h1 (am_lng (fun z h1 => z = gm_k3 (gm_mpt D cm L) 4 (gm_k3 cm (D 2).toNat (gm_k1 D (D 3).toNat)) ∧ MA h1 n 0 bl eo ud bf rw D ∧ am_fr h h1 n (n + 14)))) ?_ ((31 * ((31 * v) + (pO D p))) + (pC D p)) 0 (⟨⟨by omega, by omega⟩, rfl⟩)
    intro v2 k hI25 ih24
    obtain ⟨⟨k0, k1⟩, hv2⟩ := hI25
    refine q_blk (lv2 := [(0, vr n), (1, vl v2), (3, vi p), (4, vi k)]) (st2 := [vi p, vr n, vi k]) kX9_checksum_56 rfl ?_
    refine q_Vi (av := [vi p]) (st := [vi k]) (c_X9_countOf M5 hD (by omega) (by omega)) lk_RX9_39 (by decide) rfl rfl M5.ob ⟨_, rfl, rfl⟩ (Nat.le_of_ble_eq_true rfl) eX9_checksum_60 (fun z26 e27 => ?_)
    subst e27
    refine AQ.ic_ge (tgt := 99) eX9_checksum_63 (by decide) (by first | assumption | exact ⟨by omega, by omega⟩) (by first | assumption | exact ⟨by omega, by omega⟩) (fun br28 => ?_) (fun br28 => ?_)
    · skip
      refine q_blk (lv2 := [(0, vr n), (1, vl v2), (3, vi (p + 1)), (4, vi k)]) (st2 := []) kX9_checksum_99 rfl ?_
      refine q_goto (tgt := 9) eX9_checksum_102 (by decide) ?_
      refine q_sub (lv2 := [(0, vr n), (1, vl v2), (3, vi (p + 1))]) [0, 1, 2] rfl ?_
      exact ih6 v2 (p + 1) (⟨⟨by omega, by omega⟩, by rw [gm_k1_s p0, ← hv1, hv2, show k = pN D p by omega]⟩) (by omega)
    · skip
      obtain ⟨hc8, hc7⟩ := id (hD.c p0 (by omega) k0 (by omega))
      unfold am_c at hc8 hc7
      refine AQ.of (AS.ldc2 (z := 31) eX9_checksum_66 (am_gw 1607 (by decide +kernel) (by decide +kernel))) ?_
      refine q_blk (lv2 := [(0, vr n), (1, vl v2), (3, vi p), (4, vi k)]) (st2 := [vi k, vi p, vr n, vi 100, vl (31 * v2)]) kX9_checksum_69 rfl ?_
      refine q_Vi (av := [vi p, vi k]) (st := [vi 100, vl (31 * v2)]) (c_X9_xOf M5 hD (by omega) (by omega) (by omega) (by omega)) lk_RX9_72 (by decide) rfl rfl M5.ob ⟨_, rfl, rfl⟩ (Nat.le_of_ble_eq_true rfl) eX9_checksum_77 (fun z29 e30 => ?_)
      subst e30
      refine q_blk (lv2 := [(0, vr n), (1, vl v2), (3, vi p), (4, vi k)]) (st2 := [vi (100 * (pX D p k)), vl (31 * v2)]) kX9_checksum_80 rfl ?_
      refine AQ.of (AS.i2l eX9_checksum_81 (by first | assumption | exact ⟨by omega, by omega⟩)) ?_
      refine q_blk (lv2 := [(0, vr n), (1, vl v2), (3, vi p), (4, vi k)]) (st2 := [vi k, vi p, vr n, vl ((31 * v2) + (100 * (pX D p k)))]) kX9_checksum_82 rfl ?_
      refine q_Vi (av := [vi p, vi k]) (st := [vl ((31 * v2) + (100 * (pX D p k)))]) (c_X9_yOf M5 hD (by omega) (by omega) (by omega) (by omega)) lk_RX9_75 (by decide) rfl rfl M5.ob ⟨_, rfl, rfl⟩ (Nat.le_of_ble_eq_true rfl) eX9_checksum_87 (fun z31 e32 => ?_)
      subst e32
      refine AQ.of (AS.i2l eX9_checksum_90 (by first | assumption | exact ⟨by omega, by omega⟩)) ?_
      refine q_blk (lv2 := [(0, vr n), (1, vl (((31 * v2) + (100 * (pX D p k))) + (pY D p k))), (3, vi p), (4, vi (k + 1))]) (st2 := []) kX9_checksum_91 rfl ?_
      refine q_goto (tgt := 56) eX9_checksum_96 (by decide) ?_
      exact ih24 (((31 * v2) + (100 * (pX D p k))) + (pY D p k)) (k + 1) (⟨⟨by omega, by omega⟩, by rw [gm_k2_s k0, ← hv2]; omega⟩) (by omega)
